theorem l_opn0 (x : s_T) : (0 : Int32) = nI (q_opn x 0) := by
  rw [q_opn]
  rfl
abbrev rm_L_from : Room := { frames := 0, cells := 0, slots := 0, locals := 0 }
set_option maxHeartbeats 4000000 in
set_option maxRecDepth 100000 in
theorem k_from {l : Launch} (hfl : l.stackTraces = false) {G : mw_G} {b0 L : Nat} {xs : Nat → Int32} {M : mw_M} {k B : Nat} (hb0 : M b0 = none) (hB : 0 < B) (hB2 : B < 2 ^ 31) (hk : k < 1000) (hL : L ≤ 260) : mw_MetK (ex_S b0 L xs) l G yL_from (.code yL_from cL_from 4 (some .int)) rm_L_from [.ref b0, .int (nI k), .int (nI B)] M (mw_pi (fun r M1 => ∃ v : Nat, v < B ∧ r = nI v ∧ M = M1)) := by
  refine mw_ofK hfl (by decide) (Nat.le_of_ble_eq_true rfl) ?_
  intro zp ze zs_ zm zb zh zc ls X hin hret hex hT hl
  have hl : lv_has ls 4 [(0, .ref b0), (1, .int (nI k)), (2, .int (nI B))] := hl
  have hX := hex.2
  have hbl : b0 < zs_.heap.size := by
    obtain ⟨scr, hs, -⟩ := hX
    exact (Array.getElem?_eq_some_iff.mp hs).1
  have hbA : ¬ mw_A M zs_.heap.size b0 := by
    rintro (h | h)
    · exact h hb0
    · omega
  refine mw_join hT 27 0 0 (fun r M1 => M = M1) (fun r M1 H locs hp hT => ?_) (fun J27 => ?_)
  · subst hp
    refine lv_istore_n X.1 X.2.1 dL_from_27 rfl hl (by decide) rfl (fun ls hl => ?_)
    refine lv_iload_n X.1 X.2.1 dL_from_28 rfl (lv_at hl 0 rfl) ?_
    refine lv_ldc X.1 X.2.1 (v := 2147483647) X.2.2.2.1 (mw_use X.2.2.2.2.1.1 kw122 rfl) dL_from_29 ?_
    refine lv_iand X.1 X.2.1 dL_from_31 ?_
    obtain ⟨j, hj, ej⟩ := pk_andE r (m := 2147483647) 31 (by decide)
    refine mm_top (w := nI j) ej ?_
    refine lv_iload_n X.1 X.2.1 dL_from_32 rfl (lv_at hl 3 rfl) ?_
    refine lv_irem X.1 X.2.1 dL_from_33 (nI_ne0 hB hB2) ?_
    refine mm_top (w := nI (j % B)) (pk_rem (a := j) (d := B) hj hB hB2) ?_
    exact mr_iret X hT hret (⟨_, rfl, j % B, Nat.mod_lt _ hB, rfl, rfl⟩) (Nat.le_of_ble_eq_true rfl) (Nat.le_of_ble_eq_true rfl) dL_from_34
  · skip
    refine lv_aload_n X.1 X.2.1 dL_from_0 rfl (lv_at hl 0 rfl) ?_
    refine va_slen X.1 X.2.1 hX hbl hbA hT.2.2 dL_from_1 ?_
    refine lv_if_ne X.1 X.2.1 (tgt := 16) dL_from_2 (by decide) (fun c2 => ?_) (fun c2 => ?_)
    · skip
      have hL0 : 0 < L := Nat.pos_of_ne_zero (fun h => c2 (by rw [h]; rfl))
      refine lv_aload_n X.1 X.2.1 dL_from_16 rfl (lv_at hl 0 rfl) ?_
      refine lv_iload_n X.1 X.2.1 dL_from_17 rfl (lv_at hl 1 rfl) ?_
      refine lv_aload_n X.1 X.2.1 dL_from_18 rfl (lv_at hl 0 rfl) ?_
      refine va_slen X.1 X.2.1 hX hbl hbA hT.2.2 dL_from_19 ?_
      refine lv_irem X.1 X.2.1 dL_from_20 (nI_ne0 hL0 (by omega)) ?_
      refine mm_top (w := nI (k % L)) (pk_rem (a := k) (d := L) (by omega) hL0 (by omega)) ?_
      refine va_sld X.1 X.2.1 hX hbl hbA hT.2.2 (vp_in_nI (n := k % L) (Nat.mod_lt _ hL0) (by omega)) dL_from_21 ?_
      refine lv_ldc X.1 X.2.1 (v := 136999) X.2.2.2.1 (mw_use X.2.2.2.2.1.1 kw121 rfl) dL_from_22 ?_
      refine lv_iload_n X.1 X.2.1 dL_from_24 rfl (lv_at hl 1 rfl) ?_
      refine lv_imul X.1 X.2.1 dL_from_25 ?_
      refine lv_ixor X.1 X.2.1 dL_from_26 ?_
      exact J27 _ _ _ _ rfl hT
    · skip
      refine lv_sipush X.1 X.2.1 (v := 151) dL_from_5 (by decide) ?_
      refine lv_iload_n X.1 X.2.1 dL_from_8 rfl (lv_at hl 1 rfl) ?_
      refine lv_imul X.1 X.2.1 dL_from_9 ?_
      refine lv_bipush X.1 X.2.1 (v := 127) dL_from_10 (by decide) ?_
      refine lv_iadd X.1 X.2.1 dL_from_12 ?_
      refine lv_goto X.1 X.2.1 (tgt := 27) dL_from_13 (by decide) ?_
      exact J27 _ _ _ _ rfl hT

abbrev rm_L_isTold : Room := { frames := 8, cells := 74, slots := 444, locals := 146 }
set_option maxHeartbeats 4000000 in
set_option maxRecDepth 100000 in
theorem k_isTold {l : Launch} (hfl : l.stackTraces = false) {G : mw_G} {o : Nat} {ad : Nat → Nat} {x : s_T} {z : Nat → Nat → Int32} {M : mw_M} {zz : Nat} (hM : LW G o ad x z M) (hR : LR x z) (hI : LI x) (hV : q_inv 511 x) (hz : zz < 1000000) (hT5 : ct x 5 ≤ 99000) : mw_Met l G yL_isTold (.code yL_isTold cL_isTold 12 (some .boolean)) rm_L_isTold [.ref o, .ref (ad 2), .ref (ad 3), .ref (ad 4), .ref (ad 5), .ref (ad 6), .int (nI zz)] M (mw_pi (fun r M1 => r = 1 ∧ LW G o ad x z M1)) := by
  refine mw_of hfl (by decide) (Nat.le_of_ble_eq_true rfl) ?_
  intro zp ze zs_ zm zb zh zc ls X hin hret hT hl
  have hl : lv_has ls 12 [(0, .ref o), (1, .ref (ad 2)), (2, .ref (ad 3)), (3, .ref (ad 4)), (4, .ref (ad 5)), (5, .ref (ad 6)), (6, .int (nI zz))] := hl
  have hV2 := q_inv_mono hV (show 511 ≤ 512 by decide)
  obtain ⟨i2, i4, i10, i17, i22, i29, ilb, ils, ie, is_⟩ := id hI
  obtain ⟨v2, v4, v5⟩ := hV.le
  have htm := l_tm_le zz hT5
  refine lv_iconst X.1 X.2.1 (v := 0) dL_isTold_0 (by decide) ?_
  refine mm_top (w := nI (q_opn x 0)) (l_opn0 x) ?_
  refine lv_istore X.1 X.2.1 dL_isTold_1 hl (by decide) rfl (fun ls hl => ?_)
  refine lv_aload_n X.1 X.2.1 dL_isTold_3 rfl (lv_at hl 1 rfl) ?_
  obtain ⟨Mx, Mt, b, w, eM, hds, eo, hA, ho, hL⟩ := hM
  have hT := mw_T_eq eM hT
  have hcc := c_clock hfl hA ho hV
  rw [eo] at hcc
  have hgg := hA.gate
  rw [eo] at hgg
  refine mr_go X hT hds (mr_runV X hT cb_RL_124 kw707 kw708 kw709 (b := o) (As := []) hcc (mr_cell X hT (mw_or_l hgg) rfl) rfl rfl hl.1 ⟨Nat.le_of_ble_eq_true rfl, Nat.le_of_ble_eq_true rfl⟩ (Nat.le_of_ble_eq_true rfl) dL_isTold_4 ⟨Nat.le_of_ble_eq_true rfl, Nat.le_of_ble_eq_true rfl⟩) (fun v M1 H locs hp hds hT => ?_)
  obtain ⟨r, rfl, rfl, e9⟩ := hp
  subst e9
  have hM : LW G o ad x z (mw_or Mx Mt) := ⟨Mx, Mt, b, w, rfl, hds, eo, hA, ho, hL⟩
  clear hA ho hL hcc hgg eo
  obtain ⟨M2, eM2⟩ : ∃ M2, M2 = mw_or Mx Mt := ⟨_, rfl⟩
  rw [← eM2] at hM
  have hT := mw_T_eq eM2.symm hT
  clear eM2 hds eM
  refine W.eq (g2 := F0 zm 7 ls (.int (nI (ct x 5)) :: _)) rfl ?_
  refine lv_aload_n X.1 X.2.1 dL_isTold_7 rfl (lv_at hl 2 rfl) ?_
  refine lv_iconst X.1 X.2.1 (v := 2) dL_isTold_8 (by decide) ?_
  refine ml_ald X hT hM (k := 2) (j := 2) (by decide) (by decide) dL_isTold_9 ?_
  refine mm_top (w := nI (ct x 5)) (hR.2.2.1.2.2.1) ?_
  refine lv_icmp_ne X.1 X.2.1 (tgt := 28) dL_isTold_10 (by decide) (fun c10 => absurd c10 (fun h => h rfl)) (fun c10 => ?_)
  refine lv_aload_n X.1 X.2.1 dL_isTold_13 rfl (lv_at hl 1 rfl) ?_
  obtain ⟨Mx, Mt, b, w, eM, hds, eo, hA, ho, hL⟩ := hM
  have hT := mw_T_eq eM hT
  have hcc := c_steps hfl hA ho hV
  rw [eo] at hcc
  have hgg := hA.gate
  rw [eo] at hgg
  refine mr_go X hT hds (mr_runV X hT cb_RL_19 kw426 kw427 kw428 (b := o) (As := []) hcc (mr_cell X hT (mw_or_l hgg) rfl) rfl rfl hl.1 ⟨Nat.le_of_ble_eq_true rfl, Nat.le_of_ble_eq_true rfl⟩ (Nat.le_of_ble_eq_true rfl) dL_isTold_14 ⟨Nat.le_of_ble_eq_true rfl, Nat.le_of_ble_eq_true rfl⟩) (fun v M1 H locs hp hds hT => ?_)
  obtain ⟨r, rfl, rfl, e9⟩ := hp
  subst e9
  have hM : LW G o ad x z (mw_or Mx Mt) := ⟨Mx, Mt, b, w, rfl, hds, eo, hA, ho, hL⟩
  clear hA ho hL hcc hgg eo
  obtain ⟨M2, eM2⟩ : ∃ M2, M2 = mw_or Mx Mt := ⟨_, rfl⟩
  rw [← eM2] at hM
  have hT := mw_T_eq eM2.symm hT
  clear eM2 hds eM
  refine W.eq (g2 := F0 zm 17 ls (.int (nI (ct x 32)) :: _)) rfl ?_
  refine lv_aload_n X.1 X.2.1 dL_isTold_17 rfl (lv_at hl 2 rfl) ?_
  refine lv_bipush X.1 X.2.1 (v := 7) dL_isTold_18 (by decide) ?_
  refine ml_ald X hT hM (k := 2) (j := 7) (by decide) (by decide) dL_isTold_20 ?_
  refine mm_top (w := nI (ct x 32)) (hR.2.2.1.2.2.2.2.2.2.2.1) ?_
  refine lv_icmp_ne X.1 X.2.1 (tgt := 28) dL_isTold_21 (by decide) (fun c21 => absurd c21 (fun h => h rfl)) (fun c21 => ?_)
  refine lv_iconst X.1 X.2.1 (v := 1) dL_isTold_24 (by decide) ?_
  refine lv_goto X.1 X.2.1 (tgt := 29) dL_isTold_25 (by decide) ?_
  refine lv_istore X.1 X.2.1 dL_isTold_29 hl (by decide) rfl (fun ls hl => ?_)
  refine lv_iconst X.1 X.2.1 (v := 0) dL_isTold_31 (by decide) ?_
  refine lv_istore X.1 X.2.1 dL_isTold_32 hl (by decide) rfl (fun ls hl => ?_)
  refine W.widen (k := (fun (k : Nat) => 0 + 1 * k) 0) (n := (fun (k : Nat) => 0 + 6 * k) 0) (show ((0 + 0 + 0) : Nat) ≤ 0 + 1 * 0 by omega) (show ((0 + 0 + 0) : Nat) ≤ 0 + 6 * 0 by omega) ?_
  refine mw_loopC (nL := 12) (n := ct x 17) (fun k M1 => LW G o ad x z M1) (fun k => [(9, .int (nI k)), (8, .int 1), (7, .int (nI (q_opn x 0))), (0, .ref o), (1, .ref (ad 2)), (2, .ref (ad 3)), (3, .ref (ad 4)), (4, .ref (ad 5)), (5, .ref (ad 6)), (6, .int (nI zz))]) (fun (k : Nat) => 0 + 1 * k) (fun (k : Nat) => 0 + 6 * k) (fun k hk ih34 M1 H locs ls hM hT hl => ?_) hM hT (lv_sub hl [0, 1, 2, 3, 4, 5, 6, 7, 8, 9] rfl)
  refine lv_iload X.1 X.2.1 dL_isTold_34 (lv_at hl 0 rfl) ?_
  refine lv_aload_n X.1 X.2.1 dL_isTold_36 rfl (lv_at hl 4 rfl) ?_
  refine lv_iconst X.1 X.2.1 (v := 4) dL_isTold_37 (by decide) ?_
  refine ml_ald X hT hM (k := 2) (j := 4) (by decide) (by decide) dL_isTold_38 ?_
  refine mm_top (w := nI (ct x 17)) (hR.2.2.1.2.2.2.2.1) ?_
  refine lv_icmp_ge X.1 X.2.1 (tgt := 77) dL_isTold_39 (by decide) (fun c39 => ?_) (fun c39 => ?_)
  · skip
    have hkn := mm_exit hk (show ct x 17 < 2 ^ 31 by omega) c39
    subst hkn
    refine W.widen (k := 12) (n := 72) (show ((0 + 1 * (ct x 17)) : Nat) ≤ 12 by omega) (show ((0 + 6 * (ct x 17)) : Nat) ≤ 72 by omega) ?_
    refine lv_iconst X.1 X.2.1 (v := 0) dL_isTold_77 (by decide) ?_
    refine lv_istore X.1 X.2.1 dL_isTold_78 hl (by decide) rfl (fun ls hl => ?_)
    refine W.widen (k := (fun (k : Nat) => 12 + 1 * k) 0) (n := (fun (k : Nat) => 72 + 6 * k) 0) (show ((12) : Nat) ≤ 12 + 1 * 0 by omega) (show ((72) : Nat) ≤ 72 + 6 * 0 by omega) ?_
    refine mw_loopC (nL := 12) (n := ct x 29) (fun k M1 => LW G o ad x z M1) (fun k => [(9, .int (nI k)), (8, .int 1), (7, .int (nI (q_opn x k))), (0, .ref o), (1, .ref (ad 2)), (2, .ref (ad 3)), (3, .ref (ad 4)), (4, .ref (ad 5)), (5, .ref (ad 6)), (6, .int (nI zz))]) (fun (k : Nat) => 12 + 1 * k) (fun (k : Nat) => 72 + 6 * k) (fun k hk ih80 M1 H locs ls hM hT hl => ?_) hM hT (lv_sub hl [0, 1, 2, 3, 4, 5, 6, 7, 8, 9] rfl)
    refine lv_iload X.1 X.2.1 dL_isTold_80 (lv_at hl 0 rfl) ?_
    refine lv_aload_n X.1 X.2.1 dL_isTold_82 rfl (lv_at hl 4 rfl) ?_
    refine lv_bipush X.1 X.2.1 (v := 6) dL_isTold_83 (by decide) ?_
    refine ml_ald X hT hM (k := 2) (j := 6) (by decide) (by decide) dL_isTold_85 ?_
    refine mm_top (w := nI (ct x 29)) (hR.2.2.1.2.2.2.2.2.2.1) ?_
    refine lv_icmp_ge X.1 X.2.1 (tgt := 148) dL_isTold_86 (by decide) (fun c86 => ?_) (fun c86 => ?_)
    · skip
      have hkn := mm_exit hk (show ct x 29 < 2 ^ 31 by omega) c86
      subst hkn
      refine W.widen (k := 24) (n := 144) (show ((12 + 1 * (ct x 29)) : Nat) ≤ 24 by omega) (show ((72 + 6 * (ct x 29)) : Nat) ≤ 144 by omega) ?_
      refine lv_iconst X.1 X.2.1 (v := 0) dL_isTold_148 (by decide) ?_
      refine lv_istore X.1 X.2.1 dL_isTold_149 hl (by decide) rfl (fun ls hl => ?_)
      refine W.widen (k := (fun (k : Nat) => 24 + 10 * k) 0) (n := (fun (k : Nat) => 144 + 60 * k) 0) (show ((24) : Nat) ≤ 24 + 10 * 0 by omega) (show ((144) : Nat) ≤ 144 + 60 * 0 by omega) ?_
      refine mw_loopC (nL := 12) (n := 5) (fun k M1 => LW G o ad x z M1) (fun k => [(9, .int (nI k)), (8, .int 1), (7, .int (nI (q_opn x (ct x 29)))), (0, .ref o), (1, .ref (ad 2)), (2, .ref (ad 3)), (3, .ref (ad 4)), (4, .ref (ad 5)), (5, .ref (ad 6)), (6, .int (nI zz))]) (fun (k : Nat) => 24 + 10 * k) (fun (k : Nat) => 144 + 60 * k) (fun k hk ih151 M1 H locs ls hM hT hl => ?_) hM hT (lv_sub hl [0, 1, 2, 3, 4, 5, 6, 7, 8, 9] rfl)
      refine lv_iload X.1 X.2.1 dL_isTold_151 (lv_at hl 0 rfl) ?_
      refine lv_aload_n X.1 X.2.1 dL_isTold_153 rfl (lv_at hl 4 rfl) ?_
      refine lv_iconst X.1 X.2.1 (v := 0) dL_isTold_154 (by decide) ?_
      refine ml_ald X hT hM (k := 2) (j := 0) (by decide) (by decide) dL_isTold_155 ?_
      refine mm_top (w := nI 5) (hR.2.2.1.1.trans (congrArg nI (hI.1))) ?_
      refine lv_icmp_ge X.1 X.2.1 (tgt := 298) dL_isTold_156 (by decide) (fun c156 => ?_) (fun c156 => ?_)
      · skip
        have hkn := mm_exit hk (show 5 < 2 ^ 31 by omega) c156
        subst hkn
        refine W.widen (k := 74) (n := 444) (show ((24 + 10 * (5)) : Nat) ≤ 74 by omega) (show ((144 + 60 * (5)) : Nat) ≤ 444 by omega) ?_
        refine lv_iload X.1 X.2.1 dL_isTold_298 (lv_at hl 1 rfl) ?_
        refine lv_if_eq X.1 X.2.1 (tgt := 316) dL_isTold_300 (by decide) (fun c300 => absurd c300 (by decide)) (fun _ => ?_)
        refine lv_aload_n X.1 X.2.1 dL_isTold_303 rfl (lv_at hl 3 rfl) ?_
        obtain ⟨Mx, Mt, b, w, eM, hds, eo, hA, ho, hL⟩ := hM
        have hT := mw_T_eq eM hT
        have hcc := c_openSessions hfl hA ho hV
        rw [eo] at hcc
        have hgg := hA.gate
        rw [eo] at hgg
        refine mr_go X hT hds (mr_runV X hT cb_RL_140 kw728 kw729 kw730 (b := o) (As := []) hcc (mr_cell X hT (mw_or_l hgg) rfl) rfl rfl hl.1 ⟨Nat.le_of_ble_eq_true rfl, Nat.le_of_ble_eq_true rfl⟩ (Nat.le_of_ble_eq_true rfl) dL_isTold_304 ⟨Nat.le_of_ble_eq_true rfl, Nat.le_of_ble_eq_true rfl⟩) (fun v M1 H locs hp hds hT => ?_)
        obtain ⟨r, rfl, rfl, e9⟩ := hp
        subst e9
        have hM : LW G o ad x z (mw_or Mx Mt) := ⟨Mx, Mt, b, w, rfl, hds, eo, hA, ho, hL⟩
        clear hA ho hL hcc hgg eo
        obtain ⟨M2, eM2⟩ : ∃ M2, M2 = mw_or Mx Mt := ⟨_, rfl⟩
        rw [← eM2] at hM
        have hT := mw_T_eq eM2.symm hT
        clear eM2 hds eM
        refine W.eq (g2 := F0 zm 307 ls (.int (nI (q_opn x (ct x 29))) :: _)) rfl ?_
        refine lv_iload X.1 X.2.1 dL_isTold_307 (lv_at hl 2 rfl) ?_
        refine lv_icmp_ne X.1 X.2.1 (tgt := 316) dL_isTold_309 (by decide) (fun c309 => absurd c309 (fun h => h rfl)) (fun c309 => ?_)
        refine lv_iconst X.1 X.2.1 (v := 1) dL_isTold_312 (by decide) ?_
        refine lv_goto X.1 X.2.1 (tgt := 317) dL_isTold_313 (by decide) ?_
        exact mr_zret X hT hret (by first | rfl | decide | exact bI_nar _) (⟨_, rfl, rfl, hM⟩) (Nat.le_of_ble_eq_true rfl) (Nat.le_of_ble_eq_true rfl) dL_isTold_317
      · skip
        have hkl := mm_stay hk (show 5 < 2 ^ 31 by omega) c156
        refine lv_iload X.1 X.2.1 dL_isTold_159 (lv_at hl 1 rfl) ?_
        refine lv_if_eq X.1 X.2.1 (tgt := 298) dL_isTold_161 (by decide) (fun c161 => absurd c161 (by decide)) (fun _ => ?_)
        refine lv_aload_n X.1 X.2.1 dL_isTold_164 rfl (lv_at hl 3 rfl) ?_
        refine lv_iload X.1 X.2.1 dL_isTold_165 (lv_at hl 0 rfl) ?_
        obtain ⟨Mx, Mt, b, w, eM, hds, eo, hA, ho, hL⟩ := hM
        have hT := mw_T_eq eM hT
        have hcc := c_overdue (p := nI k) hfl hA ho hV
        rw [eo] at hcc
        have hgg := hA.gate
        rw [eo] at hgg
        have hc0 : f_overdue_c x (nI k) = 0 := l_ovc hI hkl
        refine mr_goX X hT hds (mr_runVX X hT cb_RL_134 kw719 kw720 kw721 (b := o) (As := [.int (nI k)]) hcc (mr_cell X hT (mw_or_l hgg) rfl) rfl rfl hl.1 ⟨Nat.le_of_ble_eq_true rfl, Nat.le_of_ble_eq_true rfl⟩ (Nat.le_of_ble_eq_true rfl) dL_isTold_167 ⟨by show ((24 + 10 * k + 1) : Nat) ≤ 74; omega, by show ((144 + 60 * k + 6) : Nat) ≤ 444; omega⟩) (fun E ce9 q9 H locs hp hT h1 h2 h3 => False.elim (l_no1 hc0 hp)) (fun v M1 H locs hp hds hT => ?_)
        obtain ⟨r, rfl, -, rfl, b1, e00, w1, hA1, ho1⟩ := hp
        have hM : LW G o ad x z (mw_or M1 Mt) := ⟨M1, Mt, b1, w1, rfl, hds, e00.trans eo, hA1, ho1, hL⟩
        clear hA ho hL hcc hgg eo hA1 ho1 e00
        obtain ⟨M2, eM2⟩ : ∃ M2, M2 = mw_or M1 Mt := ⟨_, rfl⟩
        rw [← eM2] at hM
        have hT := mw_T_eq eM2.symm hT
        clear eM2 hds eM
        refine W.eq (g2 := F0 zm 170 ls (.int (q_over x (nI k) (ct x 22)) :: _)) rfl ?_
        refine lv_aload X.1 X.2.1 dL_isTold_170 (lv_at hl 7 rfl) ?_
        refine lv_aload_n X.1 X.2.1 dL_isTold_172 rfl (lv_at hl 4 rfl) ?_
        refine lv_iload X.1 X.2.1 dL_isTold_173 (lv_at hl 0 rfl) ?_
        refine mr_g X hT (fun hT' => mr_runS X hT' cb_RL_78 kw467 kw468 (As := [.ref (ad 5), .ref (ad 2), .int (nI k)]) (k_overdue hfl hM hR hI hV2 (p := k) (by omega)) rfl rfl hl.1 ⟨Nat.le_of_ble_eq_true rfl, Nat.le_of_ble_eq_true rfl⟩ (Nat.le_of_ble_eq_true rfl) dL_isTold_175 ⟨by show ((24 + 10 * k + 1 + 0) : Nat) ≤ 74; omega, by show ((144 + 60 * k + 6 + 0) : Nat) ≤ 444; omega⟩) (fun v M1 H locs hp hT => ?_)
        obtain ⟨r, rfl, rfl, hM⟩ := hp
        refine W.eq (g2 := F0 zm 178 ls (.int (q_over x (nI k) (ct x 22)) :: _)) rfl ?_
        refine lv_icmp_ne X.1 X.2.1 (tgt := 185) dL_isTold_178 (by decide) (fun c178 => absurd c178 (fun h => h rfl)) (fun c178 => ?_)
        refine lv_iconst X.1 X.2.1 (v := 1) dL_isTold_181 (by decide) ?_
        refine lv_goto X.1 X.2.1 (tgt := 186) dL_isTold_182 (by decide) ?_
        refine lv_istore X.1 X.2.1 dL_isTold_186 hl (by decide) rfl (fun ls hl => ?_)
        refine lv_iconst X.1 X.2.1 (v := 0) dL_isTold_188 (by decide) ?_
        refine lv_istore X.1 X.2.1 dL_isTold_189 hl (by decide) rfl (fun ls hl => ?_)
        refine W.widen (k := (fun (j : Nat) => 24 + 10 * k + 1 + 3 * j) 0) (n := (fun (j : Nat) => 144 + 60 * k + 6 + 18 * j) 0) (show ((24 + 10 * k + 1 + 0) : Nat) ≤ 24 + 10 * k + 1 + 3 * 0 by omega) (show ((144 + 60 * k + 6 + 0) : Nat) ≤ 144 + 60 * k + 6 + 18 * 0 by omega) ?_
        refine mw_loopC (nL := 12) (n := 3) (fun j M1 => LW G o ad x z M1) (fun j => [(10, .int (nI j)), (9, .int (nI k)), (8, .int 1), (7, .int (nI (q_opn x (ct x 29)))), (0, .ref o), (1, .ref (ad 2)), (2, .ref (ad 3)), (3, .ref (ad 4)), (4, .ref (ad 5)), (5, .ref (ad 6)), (6, .int (nI zz))]) (fun (j : Nat) => 24 + 10 * k + 1 + 3 * j) (fun (j : Nat) => 144 + 60 * k + 6 + 18 * j) (fun j hj ih191 M1 H locs ls hM hT hl => ?_) hM hT (lv_sub hl [0, 2, 1, 3, 4, 5, 6, 7, 8, 9, 10] rfl)
        refine lv_iload X.1 X.2.1 dL_isTold_191 (lv_at hl 0 rfl) ?_
        refine lv_aload_n X.1 X.2.1 dL_isTold_193 rfl (lv_at hl 5 rfl) ?_
        refine lv_iconst X.1 X.2.1 (v := 1) dL_isTold_194 (by decide) ?_
        refine ml_ald X hT hM (k := 2) (j := 1) (by decide) (by decide) dL_isTold_195 ?_
        refine mm_top (w := nI 3) (hR.2.2.1.2.1.trans (congrArg nI (hI.2.1))) ?_
        refine lv_icmp_ge X.1 X.2.1 (tgt := 292) dL_isTold_196 (by decide) (fun c196 => ?_) (fun c196 => ?_)
        · skip
          have hjn := mm_exit hj (show 3 < 2 ^ 31 by decide) c196
          subst hjn
          refine lv_iinc X.1 X.2.1 (k := 1) (v := nI (k + 1)) dL_isTold_292 hl rfl (mm_inc (k)) (by decide) rfl (fun ls hl => ?_)
          refine lv_goto X.1 X.2.1 (tgt := 151) dL_isTold_295 (by decide) ?_
          refine W.widen (k := 24 + 10 * (k + 1)) (n := 144 + 60 * (k + 1)) (show ((24 + 10 * k + 1 + 3 * 3) : Nat) ≤ 24 + 10 * (k + 1) by omega) (show ((144 + 60 * k + 6 + 18 * 3) : Nat) ≤ 144 + 60 * (k + 1) by omega) ?_
          exact ih151 (by omega) _ _ _ _ (hM) hT (lv_sub hl [0, 2, 3, 4, 5, 6, 7, 8, 9, 10] rfl)
        · skip
          have hjl := mm_stay hj (show 3 < 2 ^ 31 by decide) c196
          refine lv_iload X.1 X.2.1 dL_isTold_199 (lv_at hl 2 rfl) ?_
          refine lv_if_eq X.1 X.2.1 (tgt := 292) dL_isTold_201 (by decide) (fun c201 => absurd c201 (by decide)) (fun _ => ?_)
          refine mw_join hT 249 (24 + 10 * k + 1 + 3 * j) (144 + 60 * k + 6 + 18 * j) (fun r M1 => r = nI (l_tm zz (ct x 5)) ∧ LW G o ad x z M1) (fun r M1 H locs hp hT => ?_) (fun J249 => ?_)
          · obtain ⟨rfl, hM⟩ := hp
            refine lv_istore X.1 X.2.1 dL_isTold_249 hl (by decide) rfl (fun ls hl => ?_)
            refine lv_aload_n X.1 X.2.1 dL_isTold_251 rfl (lv_at hl 5 rfl) ?_
            refine lv_iload X.1 X.2.1 dL_isTold_252 (lv_at hl 2 rfl) ?_
            refine lv_iload X.1 X.2.1 dL_isTold_254 (lv_at hl 1 rfl) ?_
            refine lv_iload X.1 X.2.1 dL_isTold_256 (lv_at hl 0 rfl) ?_
            obtain ⟨Mx, Mt, b, w, eM, hds, eo, hA, ho, hL⟩ := hM
            have hT := mw_T_eq eM hT
            have hcc := c_couldEnter (p := nI k) (mm := nI j) (t := nI (l_tm zz (ct x 5))) hfl hA ho hV
            rw [eo] at hcc
            have hgg := hA.gate
            rw [eo] at hgg
            have hc0 : f_couldEnter_c x (nI k) (nI j) (nI (l_tm zz (ct x 5))) = 0 := l_cec hI hkl hjl htm
            refine mr_goX X hT hds (mr_runVX X hT cb_RL_136 kw723 kw724 kw725 (b := o) (As := [.int (nI k), .int (nI j), .int (nI (l_tm zz (ct x 5)))]) hcc (mr_cell X hT (mw_or_l hgg) rfl) rfl rfl hl.1 ⟨Nat.le_of_ble_eq_true rfl, Nat.le_of_ble_eq_true rfl⟩ (Nat.le_of_ble_eq_true rfl) dL_isTold_258 ⟨by show ((24 + 10 * k + 1 + 3 * j + 3) : Nat) ≤ 74; omega, by show ((144 + 60 * k + 6 + 18 * j + 18) : Nat) ≤ 444; omega⟩) (fun E ce9 q9 H locs hp hT h1 h2 h3 => False.elim (l_no hc0 hp)) (fun v M1 H locs hp hds hT => ?_)
            obtain ⟨r, rfl, -, rfl, b1, e00, w1, hA1, ho1⟩ := hp
            have hM : LW G o ad x z (mw_or M1 Mt) := ⟨M1, Mt, b1, w1, rfl, hds, e00.trans eo, hA1, ho1, hL⟩
            clear hA ho hL hcc hgg eo hA1 ho1 e00
            obtain ⟨M2, eM2⟩ : ∃ M2, M2 = mw_or M1 Mt := ⟨_, rfl⟩
            rw [← eM2] at hM
            have hT := mw_T_eq eM2.symm hT
            clear eM2 hds eM
            refine W.eq (g2 := F0 zm 261 ls (.int (bI (q_hold x (nI k) (nI j) (nI (l_tm zz (ct x 5))) (ct x 10))) :: _)) rfl ?_
            refine lv_aload_n X.1 X.2.1 dL_isTold_261 rfl (lv_at hl 7 rfl) ?_
            refine lv_aload_n X.1 X.2.1 dL_isTold_262 rfl (lv_at hl 6 rfl) ?_
            refine lv_bipush X.1 X.2.1 (v := 8) dL_isTold_263 (by decide) ?_
            refine lv_iload X.1 X.2.1 dL_isTold_265 (lv_at hl 2 rfl) ?_
            refine lv_imul X.1 X.2.1 dL_isTold_267 ?_
            refine mm_top (w := nI (8 * k)) (pk_mul 8 k) ?_
            refine lv_iload X.1 X.2.1 dL_isTold_268 (lv_at hl 1 rfl) ?_
            refine lv_iadd X.1 X.2.1 dL_isTold_270 ?_
            refine mm_top (w := nI (8 * k + j)) (nI_add (8 * k) j) ?_
            refine lv_iload X.1 X.2.1 dL_isTold_271 (lv_at hl 0 rfl) ?_
            refine mr_g X hT (fun hT' => mr_runS X hT' cb_RL_32 kw408 kw409 (As := [.ref (ad 3), .ref (ad 2), .int (nI (8 * k + j)), .int (nI (l_tm zz (ct x 5)))]) (k_holdsAt hfl hM hR hI.2.2.1 hV2 (u := k) (v := j) (t := nI (l_tm zz (ct x 5))) (by omega) (by omega)) rfl rfl hl.1 ⟨Nat.le_of_ble_eq_true rfl, Nat.le_of_ble_eq_true rfl⟩ (Nat.le_of_ble_eq_true rfl) dL_isTold_273 ⟨by show ((24 + 10 * k + 1 + 3 * j + 3 + 0) : Nat) ≤ 74; omega, by show ((144 + 60 * k + 6 + 18 * j + 18 + 0) : Nat) ≤ 444; omega⟩) (fun v M1 H locs hp hT => ?_)
            obtain ⟨r, rfl, rfl, hM⟩ := hp
            refine W.eq (g2 := F0 zm 276 ls (.int (bI (q_hold x (nI k) (nI j) (nI (l_tm zz (ct x 5))) (ct x 10))) :: _)) rfl ?_
            refine lv_icmp_ne X.1 X.2.1 (tgt := 283) dL_isTold_276 (by decide) (fun c276 => absurd c276 (fun h => h rfl)) (fun c276 => ?_)
            refine lv_iconst X.1 X.2.1 (v := 1) dL_isTold_279 (by decide) ?_
            refine lv_goto X.1 X.2.1 (tgt := 284) dL_isTold_280 (by decide) ?_
            refine lv_istore X.1 X.2.1 dL_isTold_284 hl (by decide) rfl (fun ls hl => ?_)
            refine lv_iinc X.1 X.2.1 (k := 2) (v := nI (j + 1)) dL_isTold_286 hl rfl (mm_inc (j)) (by decide) rfl (fun ls hl => ?_)
            refine lv_goto X.1 X.2.1 (tgt := 191) dL_isTold_289 (by decide) ?_
            refine W.widen (k := 24 + 10 * k + 1 + 3 * (j + 1)) (n := 144 + 60 * k + 6 + 18 * (j + 1)) (show ((24 + 10 * k + 1 + 3 * j + 3 + 0) : Nat) ≤ 24 + 10 * k + 1 + 3 * (j + 1) by omega) (show ((144 + 60 * k + 6 + 18 * j + 18 + 0) : Nat) ≤ 144 + 60 * k + 6 + 18 * (j + 1) by omega) ?_
            exact ih191 (by omega) _ _ _ _ (hM) hT (lv_sub hl [0, 3, 1, 4, 5, 6, 7, 8, 9, 10, 11] rfl)
          · skip
            refine lv_iload X.1 X.2.1 dL_isTold_204 (lv_at hl 10 rfl) ?_
            refine lv_iconst X.1 X.2.1 (v := 3) dL_isTold_206 (by decide) ?_
            refine lv_irem X.1 X.2.1 dL_isTold_207 (by decide) ?_
            refine mm_top (w := nI (zz % 3)) (pk_rem (a := zz) (d := 3) (by omega) (by omega) (by omega)) ?_
            refine lv_if_ne X.1 X.2.1 (tgt := 217) dL_isTold_208 (by decide) (fun c208 => ?_) (fun c208 => ?_)
            · skip
              have e208 : ¬ zz % 3 = 0 := fun q => c208 (by rw [q]; rfl)
              refine lv_iload X.1 X.2.1 dL_isTold_217 (lv_at hl 10 rfl) ?_
              refine lv_iconst X.1 X.2.1 (v := 3) dL_isTold_219 (by decide) ?_
              refine lv_irem X.1 X.2.1 dL_isTold_220 (by decide) ?_
              refine mm_top (w := nI (zz % 3)) (pk_rem (a := zz) (d := 3) (by omega) (by omega) (by omega)) ?_
              refine lv_iconst X.1 X.2.1 (v := 1) dL_isTold_221 (by decide) ?_
              refine lv_icmp_ne X.1 X.2.1 (tgt := 239) dL_isTold_222 (by decide) (fun c222 => ?_) (fun c222 => ?_)
              · skip
                have e222 : ¬ zz % 3 = 1 := fun q => c222 (by rw [q]; rfl)
                refine lv_iload X.1 X.2.1 dL_isTold_239 (lv_at hl 10 rfl) ?_
                refine lv_iconst X.1 X.2.1 (v := 3) dL_isTold_241 (by decide) ?_
                refine lv_idiv X.1 X.2.1 dL_isTold_242 (by decide) ?_
                refine mm_top (w := nI (zz / 3)) (pk_div (a := zz) (d := 3) (by omega) (by omega) (by omega)) ?_
                refine lv_aload_n X.1 X.2.1 dL_isTold_243 rfl (lv_at hl 5 rfl) ?_
                refine lv_iconst X.1 X.2.1 (v := 2) dL_isTold_244 (by decide) ?_
                refine ml_ald X hT hM (k := 2) (j := 2) (by decide) (by decide) dL_isTold_245 ?_
                refine mm_top (w := nI (ct x 5)) (hR.2.2.1.2.2.1) ?_
                refine lv_iconst X.1 X.2.1 (v := 1) dL_isTold_246 (by decide) ?_
                refine lv_iadd X.1 X.2.1 dL_isTold_247 ?_
                refine mm_top (w := nI (ct x 5 + 1)) (nI_add (ct x 5) 1) ?_
                refine lv_irem X.1 X.2.1 dL_isTold_248 (nI_ne0 (n := ct x 5 + 1) (by omega) (by omega)) ?_
                refine mm_top (w := nI ((zz / 3) % (ct x 5 + 1))) (pk_rem (a := zz / 3) (d := ct x 5 + 1) (by omega) (by omega) (by omega)) ?_
                refine W.widen (k := 24 + 10 * k + 1 + 3 * j) (n := 144 + 60 * k + 6 + 18 * j) (show ((24 + 10 * k + 1 + 3 * j) : Nat) ≤ 24 + 10 * k + 1 + 3 * j by omega) (show ((144 + 60 * k + 6 + 18 * j) : Nat) ≤ 144 + 60 * k + 6 + 18 * j by omega) ?_
                exact J249 _ _ _ _ ⟨by first | rw [l_tm, if_pos e208] | rw [l_tm, if_neg e208, if_pos e222] | rw [l_tm, if_neg e208, if_neg e222], hM⟩ hT
              · skip
                have e222 : zz % 3 = 1 := (nI_eq (a := zz % 3) (b := 1) (by omega) (by omega)).mp c222
                refine lv_aload_n X.1 X.2.1 dL_isTold_225 rfl (lv_at hl 5 rfl) ?_
                refine lv_iconst X.1 X.2.1 (v := 2) dL_isTold_226 (by decide) ?_
                refine ml_ald X hT hM (k := 2) (j := 2) (by decide) (by decide) dL_isTold_227 ?_
                refine mm_top (w := nI (ct x 5)) (hR.2.2.1.2.2.1) ?_
                refine lv_iload X.1 X.2.1 dL_isTold_228 (lv_at hl 10 rfl) ?_
                refine lv_iconst X.1 X.2.1 (v := 3) dL_isTold_230 (by decide) ?_
                refine lv_idiv X.1 X.2.1 dL_isTold_231 (by decide) ?_
                refine mm_top (w := nI (zz / 3)) (pk_div (a := zz) (d := 3) (by omega) (by omega) (by omega)) ?_
                refine lv_bipush X.1 X.2.1 (v := 50) dL_isTold_232 (by decide) ?_
                refine lv_irem X.1 X.2.1 dL_isTold_234 (by decide) ?_
                refine mm_top (w := nI ((zz / 3) % 50)) (pk_rem (a := zz / 3) (d := 50) (by omega) (by omega) (by omega)) ?_
                refine lv_iadd X.1 X.2.1 dL_isTold_235 ?_
                refine mm_top (w := nI (ct x 5 + (zz / 3) % 50)) (nI_add (ct x 5) ((zz / 3) % 50)) ?_
                refine lv_goto X.1 X.2.1 (tgt := 249) dL_isTold_236 (by decide) ?_
                refine W.widen (k := 24 + 10 * k + 1 + 3 * j) (n := 144 + 60 * k + 6 + 18 * j) (show ((24 + 10 * k + 1 + 3 * j) : Nat) ≤ 24 + 10 * k + 1 + 3 * j by omega) (show ((144 + 60 * k + 6 + 18 * j) : Nat) ≤ 144 + 60 * k + 6 + 18 * j by omega) ?_
                exact J249 _ _ _ _ ⟨by first | rw [l_tm, if_pos e208] | rw [l_tm, if_neg e208, if_pos e222] | rw [l_tm, if_neg e208, if_neg e222], hM⟩ hT
            · skip
              have e208 : zz % 3 = 0 := (nI_eq (a := zz % 3) (b := 0) (by omega) (by omega)).mp c208
              refine lv_aload_n X.1 X.2.1 dL_isTold_211 rfl (lv_at hl 5 rfl) ?_
              refine lv_iconst X.1 X.2.1 (v := 2) dL_isTold_212 (by decide) ?_
              refine ml_ald X hT hM (k := 2) (j := 2) (by decide) (by decide) dL_isTold_213 ?_
              refine mm_top (w := nI (ct x 5)) (hR.2.2.1.2.2.1) ?_
              refine lv_goto X.1 X.2.1 (tgt := 249) dL_isTold_214 (by decide) ?_
              refine W.widen (k := 24 + 10 * k + 1 + 3 * j) (n := 144 + 60 * k + 6 + 18 * j) (show ((24 + 10 * k + 1 + 3 * j) : Nat) ≤ 24 + 10 * k + 1 + 3 * j by omega) (show ((144 + 60 * k + 6 + 18 * j) : Nat) ≤ 144 + 60 * k + 6 + 18 * j by omega) ?_
              exact J249 _ _ _ _ ⟨by first | rw [l_tm, if_pos e208] | rw [l_tm, if_neg e208, if_pos e222] | rw [l_tm, if_neg e208, if_neg e222], hM⟩ hT
    · skip
      have hkl := mm_stay hk (show ct x 29 < 2 ^ 31 by omega) c86
      have o25 := (is_ k hkl).2.1
      refine lv_iload X.1 X.2.1 dL_isTold_89 (lv_at hl 1 rfl) ?_
      refine lv_if_eq X.1 X.2.1 (tgt := 148) dL_isTold_91 (by decide) (fun c91 => absurd c91 (by decide)) (fun _ => ?_)
      refine lv_iload X.1 X.2.1 dL_isTold_94 (lv_at hl 2 rfl) ?_
      refine lv_aload X.1 X.2.1 dL_isTold_96 (lv_at hl 8 rfl) ?_
      refine lv_iconst X.1 X.2.1 (v := 5) dL_isTold_98 (by decide) ?_
      refine lv_iload X.1 X.2.1 dL_isTold_99 (lv_at hl 0 rfl) ?_
      refine lv_imul X.1 X.2.1 dL_isTold_101 ?_
      refine mm_top (w := nI (5 * k)) (pk_mul 5 k) ?_
      refine lv_iconst X.1 X.2.1 (v := 1) dL_isTold_102 (by decide) ?_
      refine lv_iadd X.1 X.2.1 dL_isTold_103 ?_
      refine mm_top (w := nI (5 * k + 1)) (nI_add (5 * k) 1) ?_
      refine ml_ald X hT hM (k := 6) (j := 5 * k + 1) (by decide) (show 5 * k + 1 < 60 by omega) dL_isTold_104 ?_
      refine mm_top (w := cg x 25 k) ((hR.2.2.2.2.2.2 k hkl).2.1) ?_
      refine lv_iadd X.1 X.2.1 dL_isTold_105 ?_
      refine mm_top (w := nI (q_opn x (k + 1))) (l_opn o25) ?_
      refine lv_istore X.1 X.2.1 dL_isTold_106 hl (by decide) rfl (fun ls hl => ?_)
      refine lv_aload_n X.1 X.2.1 dL_isTold_108 rfl (lv_at hl 3 rfl) ?_
      refine lv_iload X.1 X.2.1 dL_isTold_109 (lv_at hl 1 rfl) ?_
      obtain ⟨Mx, Mt, b, w, eM, hds, eo, hA, ho, hL⟩ := hM
      have hT := mw_T_eq eM hT
      have hcc := c_isOpen (aa := nI k) hfl hA ho hV
      rw [eo] at hcc
      have hgg := hA.gate
      rw [eo] at hgg
      have hc0 : f_isOpen_c x (nI k) = 0 := l_isc hI hkl
      refine mr_goX X hT hds (mr_runVX X hT cb_RL_130 kw715 kw716 kw717 (b := o) (As := [.int (nI k)]) hcc (mr_cell X hT (mw_or_l hgg) rfl) rfl rfl hl.1 ⟨Nat.le_of_ble_eq_true rfl, Nat.le_of_ble_eq_true rfl⟩ (Nat.le_of_ble_eq_true rfl) dL_isTold_111 ⟨by show ((12 + 1 * k + 1) : Nat) ≤ 74; omega, by show ((72 + 6 * k + 6) : Nat) ≤ 444; omega⟩) (fun E ce9 q9 H locs hp hT h1 h2 h3 => False.elim (l_no1 hc0 hp)) (fun v M1 H locs hp hds hT => ?_)
      obtain ⟨r, rfl, -, rfl, b1, e00, w1, hA1, ho1⟩ := hp
      have hM : LW G o ad x z (mw_or M1 Mt) := ⟨M1, Mt, b1, w1, rfl, hds, e00.trans eo, hA1, ho1, hL⟩
      clear hA ho hL hcc hgg eo hA1 ho1 e00
      obtain ⟨M2, eM2⟩ : ∃ M2, M2 = mw_or M1 Mt := ⟨_, rfl⟩
      rw [← eM2] at hM
      have hT := mw_T_eq eM2.symm hT
      clear eM2 hds eM
      refine W.eq (g2 := F0 zm 114 ls (.int (bI (decide (cg x 25 (pn (nI k)) ≠ 0))) :: _)) rfl ?_
      refine mm_top (w := bI (decide (cg x 25 k ≠ 0))) (by rw [pn_nI (show k < 2 ^ 31 by omega)]) ?_
      refine mw_join hT 132 (12 + 1 * k + 1) (72 + 6 * k + 6) (fun r M1 => r = bI (decide (cg x 25 k ≠ 0)) ∧ LW G o ad x z M1) (fun r M1 H locs hp hT => ?_) (fun J132 => ?_)
      · obtain ⟨rfl, hM⟩ := hp
        refine lv_icmp_ne X.1 X.2.1 (tgt := 139) dL_isTold_132 (by decide) (fun c132 => absurd c132 (fun h => h rfl)) (fun c132 => ?_)
        refine lv_iconst X.1 X.2.1 (v := 1) dL_isTold_135 (by decide) ?_
        refine lv_goto X.1 X.2.1 (tgt := 140) dL_isTold_136 (by decide) ?_
        refine lv_istore X.1 X.2.1 dL_isTold_140 hl (by decide) rfl (fun ls hl => ?_)
        refine lv_iinc X.1 X.2.1 (k := 2) (v := nI (k + 1)) dL_isTold_142 hl rfl (mm_inc (k)) (by decide) rfl (fun ls hl => ?_)
        refine lv_goto X.1 X.2.1 (tgt := 80) dL_isTold_145 (by decide) ?_
        refine W.widen (k := 12 + 1 * (k + 1)) (n := 72 + 6 * (k + 1)) (show ((12 + 1 * k + 1) : Nat) ≤ 12 + 1 * (k + 1) by omega) (show ((72 + 6 * k + 6) : Nat) ≤ 72 + 6 * (k + 1) by omega) ?_
        exact ih80 (by omega) _ _ _ _ (hM) hT (lv_sub hl [0, 1, 2, 3, 4, 5, 6, 7, 8, 9] rfl)
      · skip
        refine lv_aload X.1 X.2.1 dL_isTold_114 (lv_at hl 8 rfl) ?_
        refine lv_iconst X.1 X.2.1 (v := 5) dL_isTold_116 (by decide) ?_
        refine lv_iload X.1 X.2.1 dL_isTold_117 (lv_at hl 1 rfl) ?_
        refine lv_imul X.1 X.2.1 dL_isTold_119 ?_
        refine mm_top (w := nI (5 * k)) (pk_mul 5 k) ?_
        refine lv_iconst X.1 X.2.1 (v := 1) dL_isTold_120 (by decide) ?_
        refine lv_iadd X.1 X.2.1 dL_isTold_121 ?_
        refine mm_top (w := nI (5 * k + 1)) (nI_add (5 * k) 1) ?_
        refine ml_ald X hT hM (k := 6) (j := 5 * k + 1) (by decide) (show 5 * k + 1 < 60 by omega) dL_isTold_122 ?_
        refine mm_top (w := cg x 25 k) ((hR.2.2.2.2.2.2 k hkl).2.1) ?_
        refine lv_iconst X.1 X.2.1 (v := 1) dL_isTold_123 (by decide) ?_
        refine lv_icmp_ne X.1 X.2.1 (tgt := 131) dL_isTold_124 (by decide) (fun c124 => ?_) (fun c124 => ?_)
        · skip
          refine lv_iconst X.1 X.2.1 (v := 0) dL_isTold_131 (by decide) ?_
          refine W.widen (k := 12 + 1 * k + 1) (n := 72 + 6 * k + 6) (show ((12 + 1 * k + 1) : Nat) ≤ 12 + 1 * k + 1 by omega) (show ((72 + 6 * k + 6) : Nat) ≤ 72 + 6 * k + 6 by omega) ?_
          exact J132 _ _ _ _ ⟨by rcases o25 with h | h <;> simp [h, bI] at c124 ⊢, hM⟩ hT
        · skip
          refine lv_iconst X.1 X.2.1 (v := 1) dL_isTold_127 (by decide) ?_
          refine lv_goto X.1 X.2.1 (tgt := 132) dL_isTold_128 (by decide) ?_
          refine W.widen (k := 12 + 1 * k + 1) (n := 72 + 6 * k + 6) (show ((12 + 1 * k + 1) : Nat) ≤ 12 + 1 * k + 1 by omega) (show ((72 + 6 * k + 6) : Nat) ≤ 72 + 6 * k + 6 by omega) ?_
          exact J132 _ _ _ _ ⟨by rcases o25 with h | h <;> simp [h, bI] at c124 ⊢, hM⟩ hT
  · skip
    have hkl := mm_stay hk (show ct x 17 < 2 ^ 31 by omega) c39
    refine lv_iload X.1 X.2.1 dL_isTold_42 (lv_at hl 1 rfl) ?_
    refine lv_if_eq X.1 X.2.1 (tgt := 77) dL_isTold_44 (by decide) (fun c44 => absurd c44 (by decide)) (fun _ => ?_)
    refine lv_aload_n X.1 X.2.1 dL_isTold_47 rfl (lv_at hl 3 rfl) ?_
    refine lv_iload X.1 X.2.1 dL_isTold_48 (lv_at hl 0 rfl) ?_
    obtain ⟨Mx, Mt, b, w, eM, hds, eo, hA, ho, hL⟩ := hM
    have hT := mw_T_eq eM hT
    have hcc := c_askState (aa := nI k) hfl hA ho hV
    rw [eo] at hcc
    have hgg := hA.gate
    rw [eo] at hgg
    have hc0 : f_askState_c x (nI k) = 0 := l_asc hI hkl
    refine mr_goX X hT hds (mr_runVX X hT cb_RL_127 kw711 kw712 kw713 (b := o) (As := [.int (nI k)]) hcc (mr_cell X hT (mw_or_l hgg) rfl) rfl rfl hl.1 ⟨Nat.le_of_ble_eq_true rfl, Nat.le_of_ble_eq_true rfl⟩ (Nat.le_of_ble_eq_true rfl) dL_isTold_50 ⟨by show ((0 + 1 * k + 1) : Nat) ≤ 74; omega, by show ((0 + 6 * k + 6) : Nat) ≤ 444; omega⟩) (fun E ce9 q9 H locs hp hT h1 h2 h3 => False.elim (l_no1 hc0 hp)) (fun v M1 H locs hp hds hT => ?_)
    obtain ⟨r, rfl, -, rfl, b1, e00, w1, hA1, ho1⟩ := hp
    have hM : LW G o ad x z (mw_or M1 Mt) := ⟨M1, Mt, b1, w1, rfl, hds, e00.trans eo, hA1, ho1, hL⟩
    clear hA ho hL hcc hgg eo hA1 ho1 e00
    obtain ⟨M2, eM2⟩ : ∃ M2, M2 = mw_or M1 Mt := ⟨_, rfl⟩
    rw [← eM2] at hM
    have hT := mw_T_eq eM2.symm hT
    clear eM2 hds eM
    refine W.eq (g2 := F0 zm 53 ls (.int (cg x 15 (pn (nI k))) :: _)) rfl ?_
    refine mm_top (w := cg x 15 k) (by rw [pn_nI (show k < 2 ^ 31 by omega)]) ?_
    refine lv_aload_n X.1 X.2.1 dL_isTold_53 rfl (lv_at hl 6 rfl) ?_
    refine lv_iconst X.1 X.2.1 (v := 5) dL_isTold_54 (by decide) ?_
    refine lv_iload X.1 X.2.1 dL_isTold_55 (lv_at hl 0 rfl) ?_
    refine lv_imul X.1 X.2.1 dL_isTold_57 ?_
    refine mm_top (w := nI (5 * k)) (pk_mul 5 k) ?_
    refine lv_iconst X.1 X.2.1 (v := 3) dL_isTold_58 (by decide) ?_
    refine lv_iadd X.1 X.2.1 dL_isTold_59 ?_
    refine mm_top (w := nI (5 * k + 3)) (nI_add (5 * k) 3) ?_
    refine ml_ald X hT hM (k := 4) (j := 5 * k + 3) (by decide) (show 5 * k + 3 < 60 by omega) dL_isTold_60 ?_
    refine mm_top (w := cg x 15 k) ((hR.2.2.2.2.1 k hkl).2.2.2.1) ?_
    refine lv_icmp_ne X.1 X.2.1 (tgt := 68) dL_isTold_61 (by decide) (fun c61 => absurd c61 (fun h => h rfl)) (fun c61 => ?_)
    refine lv_iconst X.1 X.2.1 (v := 1) dL_isTold_64 (by decide) ?_
    refine lv_goto X.1 X.2.1 (tgt := 69) dL_isTold_65 (by decide) ?_
    refine lv_istore X.1 X.2.1 dL_isTold_69 hl (by decide) rfl (fun ls hl => ?_)
    refine lv_iinc X.1 X.2.1 (k := 1) (v := nI (k + 1)) dL_isTold_71 hl rfl (mm_inc (k)) (by decide) rfl (fun ls hl => ?_)
    refine lv_goto X.1 X.2.1 (tgt := 34) dL_isTold_74 (by decide) ?_
    refine W.widen (k := 0 + 1 * (k + 1)) (n := 0 + 6 * (k + 1)) (show ((0 + 1 * k + 1) : Nat) ≤ 0 + 1 * (k + 1) by omega) (show ((0 + 6 * k + 6) : Nat) ≤ 0 + 6 * (k + 1) by omega) ?_
    exact ih34 (by omega) _ _ _ _ (hM) hT (lv_sub hl [0, 1, 2, 3, 4, 5, 6, 7, 8, 9] rfl)
