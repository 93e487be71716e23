abbrev rm_L_acts : Room := { frames := 10, cells := 7, slots := 2626, locals := 311 }
set_option maxHeartbeats 4000000 in
set_option maxRecDepth 100000 in
theorem k_acts_take {l : Launch} (hfl : l.stackTraces = false) {G : mw_G} {o : Nat} {ad : Nat → Nat} {x : s_T} {z : Nat → Nat → Int32} {M : mw_M} {N T wy zz : Nat} {zp : Program} {ze : Env} {zs_ : State} {zm : MethodId} {zb : List Frame} {zh : Method} {zc : Code} {ls : Array Slot} {H : Heap} {locs : List Loc} {M1 : mw_M}  (X : mw_B zp l zs_ zm zh zc cL_acts 15 yL_acts.cls G (mw_A M zs_.heap.size)) (hret : zh.sig.returnType = (some .boolean)) (hex : ex_N zs_) (hT : mw_T G (mw_A M zs_.heap.size) zs_ M1 H locs) (hM : LW G o ad x z M1) (hl : lv_has ls 15 [(0, .ref o), (1, .ref (ad 0)), (2, .ref (ad 1)), (3, .ref (ad 2)), (4, .ref (ad 3)), (5, .ref (ad 4)), (6, .ref (ad 5)), (7, .ref (ad 6)), (8, .int (nI wy)), (9, .int (nI zz))]) (hS : LSt N T x z) (hN : N ≤ 499) (hz : zz < 1000000) : W zp l ze rm_L_acts zs_ zm ([.ref o, .ref (ad 0), .ref (ad 1), .ref (ad 2), .ref (ad 3), .ref (ad 4), .ref (ad 5), .ref (ad 6), .int (nI wy), .int (nI zz)] : List Value).toArray zb zh zc H locs (0) (0) (mw_E zb G M rm_L_acts (mw_pi (fun r M1 => r = 1 ∧ ∃ (x1 : s_T) (z1 : Nat → Nat → Int32) (T1 : Nat), LSt (N + 1) T1 x1 z1 ∧ (T1 ≤ T + 40 ∨ T1 ≤ 92000) ∧ LW G o ad x1 z1 M1)) ([.ref o, .ref (ad 0), .ref (ad 1), .ref (ad 2), .ref (ad 3), .ref (ad 4), .ref (ad 5), .ref (ad 6), .int (nI wy), .int (nI zz)] : List Value).toArray zs_) (F0 zm 627 ls []) := by
  obtain ⟨hR, hI, hq, hT5, hH⟩ := id hS
  have hV := q_inv_mono hq.1 (show N ≤ 512 by omega)
  have hX := q_inv_mono hq.1 (show N ≤ 511 by omega)
  obtain ⟨i2, i4, i10, i17, i22, i29, ilb, ils, ie, is_⟩ := id hI
  obtain ⟨v2, v4, v5⟩ := hV.le
  obtain ⟨sq, hsq, esq⟩ := id ils
  refine lv_iload X.1 X.2.1 dL_acts_627 (lv_at hl 9 rfl) ?_
  refine lv_aload_n X.1 X.2.1 dL_acts_629 rfl (lv_at hl 3 rfl) ?_
  refine lv_iconst X.1 X.2.1 (v := 0) dL_acts_630 (by decide) ?_
  refine ml_ald X hT hM (k := 2) (j := 0) (by decide) (by decide) dL_acts_631 ?_
  refine mm_top (w := nI 5) (hR.2.2.1.1.trans (congrArg nI (hI.1))) ?_
  refine lv_irem X.1 X.2.1 dL_acts_632 (nI_ne0 (n := 5) (by omega) (by omega)) ?_
  refine mm_top (w := nI (zz % 5)) (pk_rem (a := zz) (d := 5) (by omega) (by omega) (by omega)) ?_
  obtain ⟨p, hp5, ep⟩ : ∃ p, p < 5 ∧ zz % 5 = p := ⟨_, Nat.mod_lt _ (by decide), rfl⟩
  refine mm_top (w := nI p) (congrArg nI ep) ?_
  refine lv_istore X.1 X.2.1 dL_acts_633 hl (by decide) rfl (fun ls hl => ?_)
  refine lv_iload X.1 X.2.1 dL_acts_635 (lv_at hl 10 rfl) ?_
  refine lv_iconst X.1 X.2.1 (v := 5) dL_acts_637 (by decide) ?_
  refine lv_idiv X.1 X.2.1 dL_acts_638 (by decide) ?_
  refine mm_top (w := nI (zz / 5)) (pk_div (a := zz) (d := 5) (by omega) (by omega) (by omega)) ?_
  refine lv_aload_n X.1 X.2.1 dL_acts_639 rfl (lv_at hl 4 rfl) ?_
  refine lv_iconst X.1 X.2.1 (v := 1) dL_acts_640 (by decide) ?_
  refine ml_ald X hT hM (k := 2) (j := 1) (by decide) (by decide) dL_acts_641 ?_
  refine mm_top (w := nI 3) (hR.2.2.1.2.1.trans (congrArg nI (hI.2.1))) ?_
  refine lv_irem X.1 X.2.1 dL_acts_642 (nI_ne0 (n := 3) (by omega) (by omega)) ?_
  refine mm_top (w := nI ((zz / 5) % 3)) (pk_rem (a := zz / 5) (d := 3) (by omega) (by omega) (by omega)) ?_
  obtain ⟨q, hq3, eq_⟩ : ∃ q, q < 3 ∧ zz / 5 % 3 = q := ⟨_, Nat.mod_lt _ (by decide), rfl⟩
  refine mm_top (w := nI q) (congrArg nI eq_) ?_
  refine lv_istore X.1 X.2.1 dL_acts_643 hl (by decide) rfl (fun ls hl => ?_)
  refine lv_aload X.1 X.2.1 dL_acts_645 (lv_at hl 6 rfl) ?_
  refine lv_aload_n X.1 X.2.1 dL_acts_647 rfl (lv_at hl 5 rfl) ?_
  refine lv_bipush X.1 X.2.1 (v := 8) dL_acts_648 (by decide) ?_
  refine lv_iload X.1 X.2.1 dL_acts_650 (lv_at hl 1 rfl) ?_
  refine lv_imul X.1 X.2.1 dL_acts_652 ?_
  refine mm_top (w := nI (8 * p)) (pk_mul 8 p) ?_
  refine lv_iload X.1 X.2.1 dL_acts_653 (lv_at hl 0 rfl) ?_
  refine lv_iadd X.1 X.2.1 dL_acts_655 ?_
  refine mm_top (w := nI (8 * p + q)) (nI_add (8 * p) q) ?_
  refine mr_g X hT (fun hT' => mr_runS X hT' cb_RL_116 kw443 kw444 (As := [.ref (ad 3), .ref (ad 2), .int (nI (8 * p + q))]) (k_end hfl hM hR hI hV (u := p) (v := q) (by omega) (by omega)) rfl rfl hl.1 ⟨Nat.le_of_ble_eq_true rfl, Nat.le_of_ble_eq_true rfl⟩ (Nat.le_of_ble_eq_true rfl) dL_acts_656 ⟨Nat.le_of_ble_eq_true rfl, Nat.le_of_ble_eq_true rfl⟩) (fun v M1 H locs hp hT => ?_)
  obtain ⟨rfl, z1, hR1, hM⟩ := hp
  refine W.eq (g2 := F0 zm 659 ls _) rfl ?_
  refine lv_aload X.1 X.2.1 dL_acts_659 (lv_at hl 7 rfl) ?_
  refine lv_aload_n X.1 X.2.1 dL_acts_661 rfl (lv_at hl 5 rfl) ?_
  refine lv_bipush X.1 X.2.1 (v := 8) dL_acts_662 (by decide) ?_
  refine lv_iload X.1 X.2.1 dL_acts_664 (lv_at hl 1 rfl) ?_
  refine lv_imul X.1 X.2.1 dL_acts_666 ?_
  refine mm_top (w := nI (8 * p)) (pk_mul 8 p) ?_
  refine lv_iload X.1 X.2.1 dL_acts_667 (lv_at hl 0 rfl) ?_
  refine lv_iadd X.1 X.2.1 dL_acts_669 ?_
  refine mm_top (w := nI (8 * p + q)) (nI_add (8 * p) q) ?_
  refine mr_g X hT (fun hT' => mr_runS X hT' cb_RL_147 kw446 kw447 (As := [.ref (ad 4), .ref (ad 2), .int (nI (8 * p + q))]) (k_deny hfl hM hR1 (LI.ends hI _ _) (q_inv_ends hV _ _) (u := p) (v := q) (by omega) (by omega)) rfl rfl hl.1 ⟨Nat.le_of_ble_eq_true rfl, Nat.le_of_ble_eq_true rfl⟩ (Nat.le_of_ble_eq_true rfl) dL_acts_670 ⟨Nat.le_of_ble_eq_true rfl, Nat.le_of_ble_eq_true rfl⟩) (fun v M1 H locs hp hT => ?_)
  obtain ⟨rfl, z2, hR2, hM⟩ := hp
  refine W.eq (g2 := F0 zm 673 ls _) rfl ?_
  refine lv_aload_n X.1 X.2.1 dL_acts_673 rfl (lv_at hl 2 rfl) ?_
  refine lv_iload X.1 X.2.1 dL_acts_674 (lv_at hl 1 rfl) ?_
  refine lv_iload X.1 X.2.1 dL_acts_676 (lv_at hl 0 rfl) ?_
  obtain ⟨Mx, Mt, b, w, eM, hds, eo, hA, ho, hL⟩ := hM
  have hT := mw_T_eq eM hT
  have hcc := c_takeAway (p := nI p) (mm := nI q) hfl hA ho hX
  rw [eo] at hcc
  have hgg := hA.gate
  rw [eo] at hgg
  have hc0 : f_takeAway_c x (nI p) (nI q) = 0 := l_tac hI hp5 hq3
  refine mr_goX X hT hds (mr_runVX X hT cb_RL_153 kw452 kw453 kw454 (b := o) (As := [.int (nI p), .int (nI q)]) hcc (mr_cell X hT (mw_or_l hgg) rfl) rfl rfl hl.1 ⟨Nat.le_of_ble_eq_true rfl, Nat.le_of_ble_eq_true rfl⟩ (Nat.le_of_ble_eq_true rfl) dL_acts_678 ⟨Nat.le_of_ble_eq_true rfl, Nat.le_of_ble_eq_true rfl⟩) (fun E ce9 q9 H locs hp hT h1 h2 h3 => False.elim (l_no1 hc0 hp)) (fun v M1 H locs hp hds hT => ?_)
  obtain ⟨r, rfl, -, rfl, b1, e00, w1, hA1, ho1⟩ := hp
  have hM : LW G o ad ((f_takeAway_s x (nI p) (nI q)).1) z2 (mw_or M1 Mt) := ⟨M1, Mt, b1, w1, rfl, hds, e00.trans eo, hA1, ho1, hL⟩
  clear hA ho hL hcc hgg eo hA1 ho1 e00
  obtain ⟨M2, eM2⟩ : ∃ M2, M2 = mw_or M1 Mt := ⟨_, rfl⟩
  rw [← eM2] at hM
  have hT := mw_T_eq eM2.symm hT
  clear eM2 hds eM
  refine W.eq (g2 := F0 zm 681 ls (.int ((f_takeAway_s x (nI p) (nI q)).2) :: _)) rfl ?_
  have hq1 := st_takeAway (p := nI p) (m := nI q) hq
  have hX1 := q_inv_mono hq1.1 (show N + 1 ≤ 511 by omega)
  refine lv_istore X.1 X.2.1 dL_acts_681 hl (by decide) rfl (fun ls hl => ?_)
  refine lv_iload X.1 X.2.1 dL_acts_683 (lv_at hl 0 rfl) ?_
  refine lv_aload_n X.1 X.2.1 dL_acts_685 rfl (lv_at hl 3 rfl) ?_
  refine lv_aload X.1 X.2.1 dL_acts_686 (lv_at hl 7 rfl) ?_
  refine lv_aload X.1 X.2.1 dL_acts_688 (lv_at hl 10 rfl) ?_
  refine lv_aload_n X.1 X.2.1 dL_acts_690 rfl (lv_at hl 6 rfl) ?_
  refine lv_iconst X.1 X.2.1 (v := -1) dL_acts_691 (by decide) ?_
  refine mr_g X hT (fun hT' => mr_runS X hT' cb_RL_120 kw449 kw450 (As := [.ref o, .ref (ad 3), .ref (ad 6), .ref (ad 2), .int ((-1))]) (k_shut hfl hM hR2 (LI.denies (LI.ends hI _ _) _ _) (q_inv_denies (q_inv_ends hV _ _) _ _) hX1 (q_ext.rf _)) rfl rfl hl.1 ⟨Nat.le_of_ble_eq_true rfl, Nat.le_of_ble_eq_true rfl⟩ (Nat.le_of_ble_eq_true rfl) dL_acts_692 ⟨Nat.le_of_ble_eq_true rfl, Nat.le_of_ble_eq_true rfl⟩) (fun v M1 H locs hp hT => ?_)
  obtain ⟨r, rfl, rfl, z3, hR3, hM⟩ := hp
  refine W.eq (g2 := F0 zm 695 ls (.int ((q_closes (q_denies (q_ends x (nI p) (nI q)) (nI p) (nI q)) (-1)).2) :: _)) rfl ?_
  refine lv_icmp_ne X.1 X.2.1 (tgt := 702) dL_acts_695 (by decide) (fun c695 => absurd c695 (fun h => h rfl)) (fun c695 => ?_)
  refine lv_iconst X.1 X.2.1 (v := 1) dL_acts_698 (by decide) ?_
  refine lv_goto X.1 X.2.1 (tgt := 703) dL_acts_699 (by decide) ?_
  exact mr_zret X hT hret (by first | rfl | decide | exact bI_nar _) (⟨_, rfl, rfl, _, _, T, ⟨hR3, LI.close (LI.denies (LI.ends hI _ _) _ _) (q_inv_denies (q_inv_ends hV _ _) _ _) _ _ (Nat.le_refl _), hq1, (q_closes_ct (by decide)).trans hT5, LH.close (y := q_denies (q_ends x (nI p) (nI q)) (nI p) (nI q)) hH _ _⟩, Or.inl (Nat.le_add_right _ _), hM⟩) (Nat.le_of_ble_eq_true rfl) (Nat.le_of_ble_eq_true rfl) dL_acts_703
set_option maxHeartbeats 4000000 in
set_option maxRecDepth 100000 in
theorem k_acts_lab {l : Launch} (hfl : l.stackTraces = false) {G : mw_G} {o : Nat} {ad : Nat → Nat} {x : s_T} {z : Nat → Nat → Int32} {M : mw_M} {N T wy zz : Nat} {zp : Program} {ze : Env} {zs_ : State} {zm : MethodId} {zb : List Frame} {zh : Method} {zc : Code} {ls : Array Slot} {H : Heap} {locs : List Loc} {M1 : mw_M}  (X : mw_B zp l zs_ zm zh zc cL_acts 15 yL_acts.cls G (mw_A M zs_.heap.size)) (hret : zh.sig.returnType = (some .boolean)) (hex : ex_N zs_) (hT : mw_T G (mw_A M zs_.heap.size) zs_ M1 H locs) (hM : LW G o ad x z M1) (hl : lv_has ls 15 [(0, .ref o), (1, .ref (ad 0)), (2, .ref (ad 1)), (3, .ref (ad 2)), (4, .ref (ad 3)), (5, .ref (ad 4)), (6, .ref (ad 5)), (7, .ref (ad 6)), (8, .int (nI wy)), (9, .int (nI zz))]) (hS : LSt N T x z) (hN : N ≤ 499) (hz : zz < 1000000) : W zp l ze rm_L_acts zs_ zm ([.ref o, .ref (ad 0), .ref (ad 1), .ref (ad 2), .ref (ad 3), .ref (ad 4), .ref (ad 5), .ref (ad 6), .int (nI wy), .int (nI zz)] : List Value).toArray zb zh zc H locs (0) (0) (mw_E zb G M rm_L_acts (mw_pi (fun r M1 => r = 1 ∧ ∃ (x1 : s_T) (z1 : Nat → Nat → Int32) (T1 : Nat), LSt (N + 1) T1 x1 z1 ∧ (T1 ≤ T + 40 ∨ T1 ≤ 92000) ∧ LW G o ad x1 z1 M1)) ([.ref o, .ref (ad 0), .ref (ad 1), .ref (ad 2), .ref (ad 3), .ref (ad 4), .ref (ad 5), .ref (ad 6), .int (nI wy), .int (nI zz)] : List Value).toArray zs_) (F0 zm 442 ls []) := by
  obtain ⟨hR, hI, hq, hT5, hH⟩ := id hS
  have hV := q_inv_mono hq.1 (show N ≤ 512 by omega)
  have hX := q_inv_mono hq.1 (show N ≤ 511 by omega)
  obtain ⟨i2, i4, i10, i17, i22, i29, ilb, ils, ie, is_⟩ := id hI
  obtain ⟨v2, v4, v5⟩ := hV.le
  obtain ⟨sq, hsq, esq⟩ := id ils
  refine lv_iload X.1 X.2.1 dL_acts_442 (lv_at hl 9 rfl) ?_
  refine lv_aload_n X.1 X.2.1 dL_acts_444 rfl (lv_at hl 3 rfl) ?_
  refine lv_iconst X.1 X.2.1 (v := 0) dL_acts_445 (by decide) ?_
  refine ml_ald X hT hM (k := 2) (j := 0) (by decide) (by decide) dL_acts_446 ?_
  refine mm_top (w := nI 5) (hR.2.2.1.1.trans (congrArg nI (hI.1))) ?_
  refine lv_irem X.1 X.2.1 dL_acts_447 (nI_ne0 (n := 5) (by omega) (by omega)) ?_
  refine mm_top (w := nI (zz % 5)) (pk_rem (a := zz) (d := 5) (by omega) (by omega) (by omega)) ?_
  obtain ⟨p, hp5, ep⟩ : ∃ p, p < 5 ∧ zz % 5 = p := ⟨_, Nat.mod_lt _ (by decide), rfl⟩
  refine mm_top (w := nI p) (congrArg nI ep) ?_
  refine lv_istore X.1 X.2.1 dL_acts_448 hl (by decide) rfl (fun ls hl => ?_)
  refine lv_iload X.1 X.2.1 dL_acts_450 (lv_at hl 10 rfl) ?_
  refine lv_iconst X.1 X.2.1 (v := 5) dL_acts_452 (by decide) ?_
  refine lv_idiv X.1 X.2.1 dL_acts_453 (by decide) ?_
  refine mm_top (w := nI (zz / 5)) (pk_div (a := zz) (d := 5) (by omega) (by omega) (by omega)) ?_
  refine lv_iconst X.1 X.2.1 (v := 2) dL_acts_454 (by decide) ?_
  refine lv_irem X.1 X.2.1 dL_acts_455 (by decide) ?_
  refine mm_top (w := nI ((zz / 5) % 2)) (pk_rem (a := zz / 5) (d := 2) (by omega) (by omega) (by omega)) ?_
  obtain ⟨lb, hlb2, elb⟩ : ∃ lb, lb < 2 ∧ zz / 5 % 2 = lb := ⟨_, Nat.mod_lt _ (by decide), rfl⟩
  refine mm_top (w := nI lb) (congrArg nI elb) ?_
  refine lv_istore X.1 X.2.1 dL_acts_456 hl (by decide) rfl (fun ls hl => ?_)
  refine mw_join hT 473 (0) (0) (fun r M1 => r = bI (decide (0 < zz / 10 % 3)) ∧ LW G o ad x z M1) (fun r M1 H locs hp hT => ?_) (fun J473 => ?_)
  · obtain ⟨rfl, hM⟩ := hp
    refine lv_istore X.1 X.2.1 dL_acts_473 hl (by decide) rfl (fun ls hl => ?_)
    refine lv_aload_n X.1 X.2.1 dL_acts_475 rfl (lv_at hl 4 rfl) ?_
    refine lv_iconst X.1 X.2.1 (v := 2) dL_acts_476 (by decide) ?_
    refine lv_iload X.1 X.2.1 dL_acts_477 (lv_at hl 2 rfl) ?_
    refine lv_imul X.1 X.2.1 dL_acts_479 ?_
    refine mm_top (w := nI (2 * p)) (pk_mul 2 p) ?_
    refine lv_iconst X.1 X.2.1 (v := 1) dL_acts_480 (by decide) ?_
    refine lv_iadd X.1 X.2.1 dL_acts_481 ?_
    refine mm_top (w := nI (2 * p + 1)) (nI_add (2 * p) 1) ?_
    refine lv_iload X.1 X.2.1 dL_acts_482 (lv_at hl 0 rfl) ?_
    refine lv_if_eq X.1 X.2.1 (tgt := 503) dL_acts_484 (by decide) (fun c484 => ?_) (fun c484 => ?_)
    · skip
      have d484 : (decide (0 < zz / 10 % 3)) = false := bI_0.mp c484
      refine lv_aload_n X.1 X.2.1 dL_acts_503 rfl (lv_at hl 4 rfl) ?_
      refine lv_iconst X.1 X.2.1 (v := 2) dL_acts_504 (by decide) ?_
      refine lv_iload X.1 X.2.1 dL_acts_505 (lv_at hl 2 rfl) ?_
      refine lv_imul X.1 X.2.1 dL_acts_507 ?_
      refine mm_top (w := nI (2 * p)) (pk_mul 2 p) ?_
      refine lv_iconst X.1 X.2.1 (v := 1) dL_acts_508 (by decide) ?_
      refine lv_iadd X.1 X.2.1 dL_acts_509 ?_
      refine mm_top (w := nI (2 * p + 1)) (nI_add (2 * p) 1) ?_
      refine ml_ald X hT hM (k := 0) (j := 2 * p + 1) (by decide) (show 2 * p + 1 < 10 by omega) dL_acts_510 ?_
      refine lv_iconst X.1 X.2.1 (v := 1) dL_acts_511 (by decide) ?_
      refine lv_iload X.1 X.2.1 dL_acts_512 (lv_at hl 1 rfl) ?_
      refine lv_ishl X.1 X.2.1 dL_acts_514 ?_
      refine lv_iconst X.1 X.2.1 (v := -1) dL_acts_515 (by decide) ?_
      refine lv_ixor X.1 X.2.1 dL_acts_516 ?_
      refine lv_iand X.1 X.2.1 dL_acts_517 ?_
      refine mm_top (w := c_keep (z 0 (2 * p + 1)) lb false) (rfl) ?_
      refine ml_ast X hT hM (k := 0) (j := 2 * p + 1) (by decide) (show 2 * p + 1 < 10 by omega) dL_acts_518 (fun M1 H locs hM hT => ?_)
      have hR1 : LR (cs x 1 (4 * p + lb) (bI false)) (zs z 0 (2 * p + 1) (c_keep (z 0 (2 * p + 1)) lb false)) := LR.lab (h := false) hR hp5 hlb2
      refine lv_iconst X.1 X.2.1 (v := 0) dL_acts_519 (by decide) ?_
      refine lv_istore X.1 X.2.1 dL_acts_520 hl (by decide) rfl (fun ls hl => ?_)
      refine W.widen (k := (fun _ => 0) 0) (n := (fun _ => 0) 0) (show ((0) : Nat) ≤ 0 by omega) (show ((0) : Nat) ≤ 0 by omega) ?_
      refine mw_loopC (nL := 15) (n := 3) (fun k M1 => ∃ z1 : Nat → Nat → Int32, LR (q_strip (cs x 1 (4 * p + lb) (bI false)) (nI p) (nI lb) k) z1 ∧ LW G o ad x z1 M1) (fun k => [(13, .int (nI k)), (12, .int (bI (decide (0 < zz / 10 % 3)))), (11, .int (nI lb)), (10, .int (nI p)), (9, .int (nI zz)), (8, .int (nI wy)), (7, .ref (ad 6)), (6, .ref (ad 5)), (5, .ref (ad 4)), (4, .ref (ad 3)), (3, .ref (ad 2)), (2, .ref (ad 1)), (1, .ref (ad 0)), (0, .ref o)]) (fun _ => 0) (fun _ => 0) (fun k hk ih522 M1 H locs ls hM hT hl => ?_) ⟨_, hR1, hM⟩ hT (lv_sub hl [0, 1, 2, 3, 13, 12, 11, 10, 9, 8, 7, 6, 5, 4] rfl)
      obtain ⟨z1, hR1, hM⟩ := hM
      have hI1 := (LI.lab hI (4 * p + lb) (bI false)).strip (nI p) (nI lb) k
      have hV1 := q_inv_strip (q_inv_lab hV (4 * p + lb) false) (nI p) (nI lb) k
      have hH1 := LH.strip (x := cs x 1 (4 * p + lb) (bI false)) hH (nI p) (nI lb) k
      have e5 : ct (q_strip (cs x 1 (4 * p + lb) (bI false)) (nI p) (nI lb) k) 5 = T := (q_strip_ct _ _ _ _ k).trans hT5
      obtain ⟨yk, ey⟩ : ∃ w, w = q_strip (cs x 1 (4 * p + lb) (bI false)) (nI p) (nI lb) k := ⟨_, rfl⟩
      rw [← ey] at hR1 hI1 hV1 hH1 e5
      refine lv_iload X.1 X.2.1 dL_acts_522 (lv_at hl 0 rfl) ?_
      refine lv_aload_n X.1 X.2.1 dL_acts_524 rfl (lv_at hl 10 rfl) ?_
      refine lv_iconst X.1 X.2.1 (v := 1) dL_acts_525 (by decide) ?_
      refine ml_ald X hT hM (k := 2) (j := 1) (by decide) (by decide) dL_acts_526 ?_
      refine mm_top (w := nI 3) (hR1.2.2.1.2.1.trans (congrArg nI (hI1.2.1))) ?_
      refine lv_icmp_ge X.1 X.2.1 (tgt := 578) dL_acts_527 (by decide) (fun c527 => ?_) (fun c527 => ?_)
      · skip
        have hkn := mm_exit hk (show 3 < 2 ^ 31 by decide) c527
        subst hkn
        refine lv_aload_n X.1 X.2.1 dL_acts_578 rfl (lv_at hl 13 rfl) ?_
        refine lv_iload X.1 X.2.1 dL_acts_579 (lv_at hl 3 rfl) ?_
        refine lv_iload X.1 X.2.1 dL_acts_581 (lv_at hl 2 rfl) ?_
        refine lv_iload X.1 X.2.1 dL_acts_583 (lv_at hl 1 rfl) ?_
        refine mm_top (w := bI false) (congrArg bI d484) ?_
        obtain ⟨Mx, Mt, b, w, eM, hds, eo, hA, ho, hL⟩ := hM
        have hT := mw_T_eq eM hT
        have hcc := c_setLabelF (p := nI p) (ll := nI lb) hfl hA ho hX
        rw [eo] at hcc
        have hgg := hA.gate
        rw [eo] at hgg
        have hc0 : f_setLabel_c x (nI p) (nI lb) = 0 := l_slc hI hp5 hlb2
        refine mr_goX X hT hds (mr_runVX X hT cb_RL_149 kw293 kw294 kw295 (b := o) (As := [.int (nI p), .int (nI lb), .int (bI false)]) hcc (mr_cell X hT (mw_or_l hgg) rfl) rfl rfl hl.1 ⟨Nat.le_of_ble_eq_true rfl, Nat.le_of_ble_eq_true rfl⟩ (Nat.le_of_ble_eq_true rfl) dL_acts_585 ⟨Nat.le_of_ble_eq_true rfl, Nat.le_of_ble_eq_true rfl⟩) (fun E ce9 q9 H locs hp hT h1 h2 h3 => False.elim (l_no hc0 hp)) (fun v M1 H locs hp hds hT => ?_)
        obtain ⟨r, rfl, -, rfl, b1, e00, w1, hA1, ho1⟩ := hp
        have hM : LW G o ad ((f_setLabel_s x (nI p) (nI lb) false).1) z1 (mw_or M1 Mt) := ⟨M1, Mt, b1, w1, rfl, hds, e00.trans eo, hA1, ho1, hL⟩
        clear hA ho hL hcc hgg eo hA1 ho1 e00
        obtain ⟨M2, eM2⟩ : ∃ M2, M2 = mw_or M1 Mt := ⟨_, rfl⟩
        rw [← eM2] at hM
        have hT := mw_T_eq eM2.symm hT
        clear eM2 hds eM
        refine W.eq (g2 := F0 zm 588 ls (.int ((f_setLabel_s x (nI p) (nI lb) false).2) :: _)) rfl ?_
        have hq1 := st_setLabelF hq (l_slc hI hp5 hlb2)
        have eX : f_setLabel_s x (nI p) (nI lb) false = q_closes yk (-1) := by unfold f_setLabel_s; rw [pn_nI (show p < 2 ^ 31 by omega), pn_nI (show lb < 2 ^ 31 by omega), hI.2.1, ey]; rfl
        rw [eX] at hM hq1
        refine mm_top (w := (q_closes yk (-1)).2) (congrArg Prod.snd eX) ?_
        have hX1 := q_inv_mono hq1.1 (show N + 1 ≤ 511 by omega)
        refine lv_istore X.1 X.2.1 dL_acts_588 hl (by decide) rfl (fun ls hl => ?_)
        refine lv_iload X.1 X.2.1 dL_acts_590 (lv_at hl 0 rfl) ?_
        refine lv_iload X.1 X.2.1 dL_acts_592 (lv_at hl 1 rfl) ?_
        refine lv_if_eq X.1 X.2.1 (tgt := 601) dL_acts_594 (by decide) (fun _ => ?_) (fun c594 => absurd (by rw [d484]; decide) c594)
        refine lv_aload_n X.1 X.2.1 dL_acts_601 rfl (lv_at hl 13 rfl) ?_
        refine lv_aload X.1 X.2.1 dL_acts_602 (lv_at hl 9 rfl) ?_
        refine lv_aload X.1 X.2.1 dL_acts_604 (lv_at hl 6 rfl) ?_
        refine lv_aload_n X.1 X.2.1 dL_acts_606 rfl (lv_at hl 10 rfl) ?_
        refine lv_iconst X.1 X.2.1 (v := -1) dL_acts_607 (by decide) ?_
        refine mr_g X hT (fun hT' => mr_runS X hT' cb_RL_120 kw449 kw450 (As := [.ref o, .ref (ad 3), .ref (ad 6), .ref (ad 2), .int ((-1))]) (k_shut hfl hM hR1 hI1 hV1 hX1 (q_ext.rf _)) rfl rfl hl.1 ⟨Nat.le_of_ble_eq_true rfl, Nat.le_of_ble_eq_true rfl⟩ (Nat.le_of_ble_eq_true rfl) dL_acts_608 ⟨Nat.le_of_ble_eq_true rfl, Nat.le_of_ble_eq_true rfl⟩) (fun v M1 H locs hp hT => ?_)
        obtain ⟨r, rfl, rfl, z3, hR3, hM⟩ := hp
        refine W.eq (g2 := F0 zm 611 ls (.int ((q_closes yk (-1)).2) :: _)) rfl ?_
        refine lv_icmp_ne X.1 X.2.1 (tgt := 618) dL_acts_611 (by decide) (fun c611 => absurd c611 (fun h => h rfl)) (fun c611 => ?_)
        refine lv_iconst X.1 X.2.1 (v := 1) dL_acts_614 (by decide) ?_
        refine lv_goto X.1 X.2.1 (tgt := 619) dL_acts_615 (by decide) ?_
        exact mr_zret X hT hret (by first | rfl | decide | exact bI_nar _) (⟨_, rfl, rfl, _, _, T, ⟨hR3, LI.close hI1 hV1 _ _ (Nat.le_refl _), hq1, (q_closes_ct (by decide)).trans e5, LH.close hH1 _ _⟩, Or.inl (Nat.le_add_right _ _), hM⟩) (Nat.le_of_ble_eq_true rfl) (Nat.le_of_ble_eq_true rfl) dL_acts_619
      · skip
        have hkl := mm_stay hk (show 3 < 2 ^ 31 by decide) c527
        refine lv_iload X.1 X.2.1 dL_acts_530 (lv_at hl 1 rfl) ?_
        refine lv_if_ne X.1 X.2.1 (tgt := 578) dL_acts_532 (by decide) (fun c532 => absurd (by rw [d484]; decide) c532) (fun _ => ?_)
        refine lv_aload_n X.1 X.2.1 dL_acts_535 rfl (lv_at hl 11 rfl) ?_
        refine lv_iload X.1 X.2.1 dL_acts_536 (lv_at hl 0 rfl) ?_
        refine ml_ald X hT hM (k := 1) (j := k) (by decide) (show k < 3 by omega) dL_acts_538 ?_
        refine mm_top (w := cg yk 3 k) (hR1.2.1 k hkl) ?_
        refine lv_iload X.1 X.2.1 dL_acts_539 (lv_at hl 2 rfl) ?_
        refine lv_icmp_ne X.1 X.2.1 (tgt := 572) dL_acts_541 (by decide) (fun c541 => ?_) (fun c541 => ?_)
        · skip
          refine lv_iinc X.1 X.2.1 (k := 0) (v := nI (k + 1)) dL_acts_572 hl rfl (mm_inc (k)) (by decide) rfl (fun ls hl => ?_)
          refine lv_goto X.1 X.2.1 (tgt := 522) dL_acts_575 (by decide) ?_
          refine W.widen (k := 0) (n := 0) (show ((0) : Nat) ≤ 0 by omega) (show ((0) : Nat) ≤ 0 by omega) ?_
          exact ih522 (by omega) _ _ _ _ (⟨_, by rw [q_strip_f (ey ▸ c541), ← ey]; exact hR1, hM⟩) hT (lv_sub hl [0, 1, 2, 3, 4, 5, 6, 7, 8, 9, 10, 11, 12, 13] rfl)
        · skip
          refine lv_aload X.1 X.2.1 dL_acts_544 (lv_at hl 9 rfl) ?_
          refine lv_aload_n X.1 X.2.1 dL_acts_546 rfl (lv_at hl 10 rfl) ?_
          refine lv_bipush X.1 X.2.1 (v := 8) dL_acts_547 (by decide) ?_
          refine lv_iload X.1 X.2.1 dL_acts_549 (lv_at hl 3 rfl) ?_
          refine lv_imul X.1 X.2.1 dL_acts_551 ?_
          refine mm_top (w := nI (8 * p)) (pk_mul 8 p) ?_
          refine lv_iload X.1 X.2.1 dL_acts_552 (lv_at hl 0 rfl) ?_
          refine lv_iadd X.1 X.2.1 dL_acts_554 ?_
          refine mm_top (w := nI (8 * p + k)) (nI_add (8 * p) k) ?_
          refine mr_g X hT (fun hT' => mr_runS X hT' cb_RL_116 kw443 kw444 (As := [.ref (ad 3), .ref (ad 2), .int (nI (8 * p + k))]) (k_end hfl hM hR1 hI1 hV1 (u := p) (v := k) (by omega) (by omega)) rfl rfl hl.1 ⟨Nat.le_of_ble_eq_true rfl, Nat.le_of_ble_eq_true rfl⟩ (Nat.le_of_ble_eq_true rfl) dL_acts_555 ⟨Nat.le_of_ble_eq_true rfl, Nat.le_of_ble_eq_true rfl⟩) (fun v M1 H locs hp hT => ?_)
          obtain ⟨rfl, z2, hR2, hM⟩ := hp
          refine W.eq (g2 := F0 zm 558 ls _) rfl ?_
          refine lv_aload X.1 X.2.1 dL_acts_558 (lv_at hl 8 rfl) ?_
          refine lv_aload_n X.1 X.2.1 dL_acts_560 rfl (lv_at hl 10 rfl) ?_
          refine lv_bipush X.1 X.2.1 (v := 8) dL_acts_561 (by decide) ?_
          refine lv_iload X.1 X.2.1 dL_acts_563 (lv_at hl 3 rfl) ?_
          refine lv_imul X.1 X.2.1 dL_acts_565 ?_
          refine mm_top (w := nI (8 * p)) (pk_mul 8 p) ?_
          refine lv_iload X.1 X.2.1 dL_acts_566 (lv_at hl 0 rfl) ?_
          refine lv_iadd X.1 X.2.1 dL_acts_568 ?_
          refine mm_top (w := nI (8 * p + k)) (nI_add (8 * p) k) ?_
          refine mr_g X hT (fun hT' => mr_runS X hT' cb_RL_147 kw446 kw447 (As := [.ref (ad 4), .ref (ad 2), .int (nI (8 * p + k))]) (k_deny hfl hM hR2 (LI.ends hI1 _ _) (q_inv_ends hV1 _ _) (u := p) (v := k) (by omega) (by omega)) rfl rfl hl.1 ⟨Nat.le_of_ble_eq_true rfl, Nat.le_of_ble_eq_true rfl⟩ (Nat.le_of_ble_eq_true rfl) dL_acts_569 ⟨Nat.le_of_ble_eq_true rfl, Nat.le_of_ble_eq_true rfl⟩) (fun v M1 H locs hp hT => ?_)
          obtain ⟨rfl, z3, hR3, hM⟩ := hp
          refine W.eq (g2 := F0 zm 572 ls _) rfl ?_
          refine lv_iinc X.1 X.2.1 (k := 0) (v := nI (k + 1)) dL_acts_572 hl rfl (mm_inc (k)) (by decide) rfl (fun ls hl => ?_)
          refine lv_goto X.1 X.2.1 (tgt := 522) dL_acts_575 (by decide) ?_
          refine W.widen (k := 0) (n := 0) (show ((0 + 0 + 0) : Nat) ≤ 0 by omega) (show ((0 + 0 + 0) : Nat) ≤ 0 by omega) ?_
          exact ih522 (by omega) _ _ _ _ (⟨_, by rw [q_strip_t (ey ▸ c541), ← ey]; exact hR3, hM⟩) hT (lv_sub hl [0, 1, 2, 3, 4, 5, 6, 7, 8, 9, 10, 11, 12, 13] rfl)
    · skip
      have d484 : (decide (0 < zz / 10 % 3)) = true := bI_n.mp c484
      refine lv_aload_n X.1 X.2.1 dL_acts_487 rfl (lv_at hl 4 rfl) ?_
      refine lv_iconst X.1 X.2.1 (v := 2) dL_acts_488 (by decide) ?_
      refine lv_iload X.1 X.2.1 dL_acts_489 (lv_at hl 2 rfl) ?_
      refine lv_imul X.1 X.2.1 dL_acts_491 ?_
      refine mm_top (w := nI (2 * p)) (pk_mul 2 p) ?_
      refine lv_iconst X.1 X.2.1 (v := 1) dL_acts_492 (by decide) ?_
      refine lv_iadd X.1 X.2.1 dL_acts_493 ?_
      refine mm_top (w := nI (2 * p + 1)) (nI_add (2 * p) 1) ?_
      refine ml_ald X hT hM (k := 0) (j := 2 * p + 1) (by decide) (show 2 * p + 1 < 10 by omega) dL_acts_494 ?_
      refine lv_iconst X.1 X.2.1 (v := 1) dL_acts_495 (by decide) ?_
      refine lv_iload X.1 X.2.1 dL_acts_496 (lv_at hl 1 rfl) ?_
      refine lv_ishl X.1 X.2.1 dL_acts_498 ?_
      refine lv_ior X.1 X.2.1 dL_acts_499 ?_
      refine mm_top (w := c_keep (z 0 (2 * p + 1)) lb true) (rfl) ?_
      refine lv_goto X.1 X.2.1 (tgt := 518) dL_acts_500 (by decide) ?_
      refine ml_ast X hT hM (k := 0) (j := 2 * p + 1) (by decide) (show 2 * p + 1 < 10 by omega) dL_acts_518 (fun M1 H locs hM hT => ?_)
      have hR1 : LR (cs x 1 (4 * p + lb) (bI true)) (zs z 0 (2 * p + 1) (c_keep (z 0 (2 * p + 1)) lb true)) := LR.lab (h := true) hR hp5 hlb2
      refine lv_iconst X.1 X.2.1 (v := 0) dL_acts_519 (by decide) ?_
      refine lv_istore X.1 X.2.1 dL_acts_520 hl (by decide) rfl (fun ls hl => ?_)
      refine lv_iload X.1 X.2.1 dL_acts_522 (lv_at hl 0 rfl) ?_
      refine lv_aload_n X.1 X.2.1 dL_acts_524 rfl (lv_at hl 7 rfl) ?_
      refine lv_iconst X.1 X.2.1 (v := 1) dL_acts_525 (by decide) ?_
      refine ml_ald X hT hM (k := 2) (j := 1) (by decide) (by decide) dL_acts_526 ?_
      refine mm_top (w := nI 3) (by rw [zs_get, if_neg (by decide)]; exact (hR.2.2.1.2.1.trans (congrArg nI (hI.2.1)))) ?_
      refine lv_icmp_ge X.1 X.2.1 (tgt := 578) dL_acts_527 (by decide) (fun c527 => absurd c527 (by decide)) (fun c527 => ?_)
      refine lv_iload X.1 X.2.1 dL_acts_530 (lv_at hl 1 rfl) ?_
      refine lv_if_ne X.1 X.2.1 (tgt := 578) dL_acts_532 (by decide) (fun _ => ?_) (fun c532 => absurd c532 (by rw [d484]; decide))
      refine lv_aload_n X.1 X.2.1 dL_acts_578 rfl (lv_at hl 4 rfl) ?_
      refine lv_iload X.1 X.2.1 dL_acts_579 (lv_at hl 3 rfl) ?_
      refine lv_iload X.1 X.2.1 dL_acts_581 (lv_at hl 2 rfl) ?_
      refine lv_iload X.1 X.2.1 dL_acts_583 (lv_at hl 1 rfl) ?_
      refine mm_top (w := bI true) (congrArg bI d484) ?_
      obtain ⟨Mx, Mt, b, w, eM, hds, eo, hA, ho, hL⟩ := hM
      have hT := mw_T_eq eM hT
      have hcc := c_setLabelT (p := nI p) (ll := nI lb) hfl hA ho hX
      rw [eo] at hcc
      have hgg := hA.gate
      rw [eo] at hgg
      have hc0 : f_setLabel_c x (nI p) (nI lb) = 0 := l_slc hI hp5 hlb2
      refine mr_goX X hT hds (mr_runVX X hT cb_RL_149 kw293 kw294 kw295 (b := o) (As := [.int (nI p), .int (nI lb), .int (bI true)]) hcc (mr_cell X hT (mw_or_l hgg) rfl) rfl rfl hl.1 ⟨Nat.le_of_ble_eq_true rfl, Nat.le_of_ble_eq_true rfl⟩ (Nat.le_of_ble_eq_true rfl) dL_acts_585 ⟨Nat.le_of_ble_eq_true rfl, Nat.le_of_ble_eq_true rfl⟩) (fun E ce9 q9 H locs hp hT h1 h2 h3 => False.elim (l_no hc0 hp)) (fun v M1 H locs hp hds hT => ?_)
      obtain ⟨r, rfl, -, rfl, b1, e00, w1, hA1, ho1⟩ := hp
      have hM : LW G o ad ((f_setLabel_s x (nI p) (nI lb) true).1) (zs z 0 (2 * p + 1) (c_keep (z 0 (2 * p + 1)) lb true)) (mw_or M1 Mt) := ⟨M1, Mt, b1, w1, rfl, hds, e00.trans eo, hA1, ho1, hL⟩
      clear hA ho hL hcc hgg eo hA1 ho1 e00
      obtain ⟨M2, eM2⟩ : ∃ M2, M2 = mw_or M1 Mt := ⟨_, rfl⟩
      rw [← eM2] at hM
      have hT := mw_T_eq eM2.symm hT
      clear eM2 hds eM
      refine W.eq (g2 := F0 zm 588 ls (.int ((f_setLabel_s x (nI p) (nI lb) true).2) :: _)) rfl ?_
      have hq1 := st_setLabelT hq (l_slc hI hp5 hlb2)
      have eX : f_setLabel_s x (nI p) (nI lb) true = (cs x 1 (4 * p + lb) (bI true), 0) := by unfold f_setLabel_s; rw [pn_nI (show p < 2 ^ 31 by omega), pn_nI (show lb < 2 ^ 31 by omega)]; rfl
      rw [eX] at hM hq1
      refine mm_top (w := 0) (congrArg Prod.snd eX) ?_
      have hX1 := q_inv_mono hq1.1 (show N + 1 ≤ 511 by omega)
      refine lv_istore X.1 X.2.1 dL_acts_588 hl (by decide) rfl (fun ls hl => ?_)
      refine lv_iload X.1 X.2.1 dL_acts_590 (lv_at hl 0 rfl) ?_
      refine lv_iload X.1 X.2.1 dL_acts_592 (lv_at hl 1 rfl) ?_
      refine lv_if_eq X.1 X.2.1 (tgt := 601) dL_acts_594 (by decide) (fun c594 => absurd c594 (by rw [d484]; decide)) (fun _ => ?_)
      refine lv_iconst X.1 X.2.1 (v := 0) dL_acts_597 (by decide) ?_
      refine lv_goto X.1 X.2.1 (tgt := 611) dL_acts_598 (by decide) ?_
      refine lv_icmp_ne X.1 X.2.1 (tgt := 618) dL_acts_611 (by decide) (fun c611 => absurd c611 (fun h => h rfl)) (fun c611 => ?_)
      refine lv_iconst X.1 X.2.1 (v := 1) dL_acts_614 (by decide) ?_
      refine lv_goto X.1 X.2.1 (tgt := 619) dL_acts_615 (by decide) ?_
      exact mr_zret X hT hret (by first | rfl | decide | exact bI_nar _) (⟨_, rfl, rfl, _, _, T, ⟨hR1, LI.lab hI _ _, hq1, hT5, hH⟩, Or.inl (Nat.le_add_right _ _), hM⟩) (Nat.le_of_ble_eq_true rfl) (Nat.le_of_ble_eq_true rfl) dL_acts_619
  · skip
    refine lv_iload X.1 X.2.1 dL_acts_458 (lv_at hl 11 rfl) ?_
    refine lv_bipush X.1 X.2.1 (v := 10) dL_acts_460 (by decide) ?_
    refine lv_idiv X.1 X.2.1 dL_acts_462 (by decide) ?_
    refine mm_top (w := nI (zz / 10)) (pk_div (a := zz) (d := 10) (by omega) (by omega) (by omega)) ?_
    refine lv_iconst X.1 X.2.1 (v := 3) dL_acts_463 (by decide) ?_
    refine lv_irem X.1 X.2.1 dL_acts_464 (by decide) ?_
    refine mm_top (w := nI ((zz / 10) % 3)) (pk_rem (a := zz / 10) (d := 3) (by omega) (by omega) (by omega)) ?_
    refine lv_if_le X.1 X.2.1 (tgt := 472) dL_acts_465 (by decide) (fun c465 => ?_) (fun c465 => ?_)
    · skip
      refine lv_iconst X.1 X.2.1 (v := 0) dL_acts_472 (by decide) ?_
      refine W.widen (k := 0) (n := 0) (show ((0) : Nat) ≤ 0 by omega) (show ((0) : Nat) ≤ 0 by omega) ?_
      exact J473 _ _ _ _ ⟨by first | (rw [decide_eq_false (show ¬ 0 < zz / 10 % 3 from fun h => nI_nle h (by omega) c465)]; rfl) | (rw [decide_eq_true (show 0 < zz / 10 % 3 from Nat.pos_of_ne_zero (fun h => c465 (by rw [h]; decide)))]; rfl), hM⟩ hT
    · skip
      refine lv_iconst X.1 X.2.1 (v := 1) dL_acts_468 (by decide) ?_
      refine lv_goto X.1 X.2.1 (tgt := 473) dL_acts_469 (by decide) ?_
      refine W.widen (k := 0) (n := 0) (show ((0) : Nat) ≤ 0 by omega) (show ((0) : Nat) ≤ 0 by omega) ?_
      exact J473 _ _ _ _ ⟨by first | (rw [decide_eq_false (show ¬ 0 < zz / 10 % 3 from fun h => nI_nle h (by omega) c465)]; rfl) | (rw [decide_eq_true (show 0 < zz / 10 % 3 from Nat.pos_of_ne_zero (fun h => c465 (by rw [h]; decide)))]; rfl), hM⟩ hT
set_option maxHeartbeats 4000000 in
set_option maxRecDepth 100000 in
theorem k_acts_lap {l : Launch} (hfl : l.stackTraces = false) {G : mw_G} {o : Nat} {ad : Nat → Nat} {x : s_T} {z : Nat → Nat → Int32} {M : mw_M} {N T wy zz : Nat} {zp : Program} {ze : Env} {zs_ : State} {zm : MethodId} {zb : List Frame} {zh : Method} {zc : Code} {ls : Array Slot} {H : Heap} {locs : List Loc} {M1 : mw_M} {mi : Nat} {zF : Nat → Nat → Int32} (X : mw_B zp l zs_ zm zh zc cL_acts 15 yL_acts.cls G (mw_A M zs_.heap.size)) (hret : zh.sig.returnType = (some .boolean)) (hex : ex_N zs_) (hT : mw_T G (mw_A M zs_.heap.size) zs_ M1 H locs) (hM : LW G o ad (f_pass_s x (nI mi)) zF M1) (hl : lv_has ls 15 [(13, .int 0), (12, .int 1), (11, .int ((q_tick x mi).2 + 0)), (10, .int (nI mi)), (9, .int (nI zz)), (8, .int (nI wy)), (7, .ref (ad 6)), (6, .ref (ad 5)), (5, .ref (ad 4)), (4, .ref (ad 3)), (3, .ref (ad 2)), (2, .ref (ad 1)), (1, .ref (ad 0)), (0, .ref o)]) (hS : LSt N T x z) (hN : N ≤ 499) (hTb : T ≤ 98000) (hmi : 1 ≤ mi ∧ (mi ≤ 40 ∨ mi ≤ 1440 ∧ ct x 5 < 90000)) (hRF : LR (q_tick x mi).1 zF) : W zp l ze rm_L_acts zs_ zm ([.ref o, .ref (ad 0), .ref (ad 1), .ref (ad 2), .ref (ad 3), .ref (ad 4), .ref (ad 5), .ref (ad 6), .int (nI wy), .int (nI zz)] : List Value).toArray zb zh zc H locs (0 + 1) (0 + 6) (mw_E zb G M rm_L_acts (mw_pi (fun r M1 => r = 1 ∧ ∃ (x1 : s_T) (z1 : Nat → Nat → Int32) (T1 : Nat), LSt (N + 1) T1 x1 z1 ∧ (T1 ≤ T + 40 ∨ T1 ≤ 92000) ∧ LW G o ad x1 z1 M1)) ([.ref o, .ref (ad 0), .ref (ad 1), .ref (ad 2), .ref (ad 3), .ref (ad 4), .ref (ad 5), .ref (ad 6), .int (nI wy), .int (nI zz)] : List Value).toArray zs_) (F0 zm 366 ls []) := by
  obtain ⟨hR, hI, hq, hT5, hH⟩ := id hS
  have hV := q_inv_mono hq.1 (show N ≤ 512 by omega)
  have hX := q_inv_mono hq.1 (show N ≤ 511 by omega)
  obtain ⟨i2, i4, i10, i17, i22, i29, ilb, ils, ie, is_⟩ := id hI
  obtain ⟨v2, v4, v5⟩ := hV.le
  obtain ⟨sq, hsq, esq⟩ := id ils
  have h25 : ∀ j, j < ct x 29 → cg x 25 j = 0 ∨ cg x 25 j = 1 := fun j hj => (is_ j hj).2.1
  have hq1 := st_pass hq (l_psc (x := x) hmi.1 (by omega) (by omega))
  obtain ⟨yF, eyF⟩ : ∃ w, w = (q_tick x mi).1 := ⟨_, rfl⟩
  rw [← eyF] at hRF
  have e5F : ct yF 5 = ct x 5 + mi := by rw [eyF]; exact q_tick_5 x mi
  have e17F : ct yF 17 = ct x 17 := by rw [eyF]; exact q_tick_ct x (by decide) (by decide) mi
  have e14F : cg yF 14 = cg x 14 := by rw [eyF]; exact (J_outer h25 mi).2.2.2.2.2.1 14 (by decide) (by decide) (by decide) (by decide)
  refine W.widen (k := (fun _ => 0 + 1) 0) (n := (fun _ => 0 + 6) 0) (show ((0 + 1) : Nat) ≤ 0 + 1 by omega) (show ((0 + 6) : Nat) ≤ 0 + 6 by omega) ?_
  refine mw_loopC (nL := 15) (n := ct x 17) (fun k M1 => ∃ z1 : Nat → Nat → Int32, LR (cf yF 15 (q_lapf yF k)) z1 ∧ LW G o ad (f_pass_s x (nI mi)) z1 M1) (fun k => [(13, .int (nI k)), (12, .int 1), (11, .int ((q_tick x mi).2 + 0)), (10, .int (nI mi)), (9, .int (nI zz)), (8, .int (nI wy)), (7, .ref (ad 6)), (6, .ref (ad 5)), (5, .ref (ad 4)), (4, .ref (ad 3)), (3, .ref (ad 2)), (2, .ref (ad 1)), (1, .ref (ad 0)), (0, .ref o)]) (fun _ => 0 + 1) (fun _ => 0 + 6) (fun k hk ih366 M1 H locs ls hM hT hl => ?_) ⟨_, by rw [q_lapf_0]; exact hRF, hM⟩ hT (lv_sub hl [0, 1, 2, 3, 4, 5, 6, 7, 8, 9, 10, 11, 12, 13] rfl)
  obtain ⟨z5, hR5, hM⟩ := hM
  have eM4 : z5 2 4 = nI (ct x 17) := hR5.2.2.1.2.2.2.2.1.trans (congrArg nI e17F)
  have eT5 : z5 2 2 = nI (ct x 5 + mi) := hR5.2.2.1.2.2.1.trans (congrArg nI e5F)
  refine lv_iload X.1 X.2.1 dL_acts_366 (lv_at hl 0 rfl) ?_
  refine lv_aload_n X.1 X.2.1 dL_acts_368 rfl (lv_at hl 10 rfl) ?_
  refine lv_iconst X.1 X.2.1 (v := 4) dL_acts_369 (by decide) ?_
  refine ml_ald X hT hM (k := 2) (j := 4) (by decide) (by decide) dL_acts_370 ?_
  refine mm_top (w := nI (ct x 17)) (eM4) ?_
  refine lv_icmp_ge X.1 X.2.1 (tgt := 432) dL_acts_371 (by decide) (fun c371 => ?_) (fun c371 => ?_)
  · skip
    have hkn := mm_exit hk (show ct x 17 < 2 ^ 31 by omega) c371
    subst hkn
    refine lv_iload X.1 X.2.1 dL_acts_432 (lv_at hl 1 rfl) ?_
    have eX : f_pass_s x (nI mi) = q_lapse yF := by unfold f_pass_s; rw [pn_nI (show mi < 2 ^ 31 by omega), eyF]
    have hRL : LR (q_lapse yF) z5 := by show LR (cf yF 15 (q_lapf yF (ct yF 17))) z5; rw [e17F]; exact hR5
    rw [eX] at hM hq1
    exact mr_zret X hT hret (by first | rfl | decide | exact bI_nar _) (⟨_, rfl, rfl, _, _, ct x 5 + mi, ⟨hRL, LI.lapse (by rw [eyF]; exact LI.tick hI hX mi (by omega)), hq1, e5F, (show LH (q_lapse yF) from (by rw [eyF]; exact LH.tick hH mi : LH yF))⟩, by omega, hM⟩) (Nat.le_of_ble_eq_true rfl) (Nat.le_of_ble_eq_true rfl) dL_acts_434
  · skip
    have hkl := mm_stay hk (show ct x 17 < 2 ^ 31 by omega) c371
    obtain ⟨-, -, ⟨t1, ht1, et⟩, -⟩ := hX.aq hkl
    obtain ⟨q1, q2, q3, q4, q5⟩ := hR5.2.2.2.2.1 k (by show k < ct yF 17; rw [e17F]; exact hkl)
    have q3 : z5 4 (5 * k + 2) = nI t1 := by rw [q3, show cg (cf yF 15 (q_lapf yF k)) 14 k = cg yF 14 k from rfl, e14F, et]
    rw [q_lapf_k] at q4
    have eL := q_lap1_eq (y := yF) (k := k) (t := t1) (T := ct x 5 + mi) (by rw [e14F, et]) e5F (by omega) (by omega)
    refine lv_aload X.1 X.2.1 dL_acts_374 (lv_at hl 8 rfl) ?_
    refine lv_iconst X.1 X.2.1 (v := 5) dL_acts_376 (by decide) ?_
    refine lv_iload X.1 X.2.1 dL_acts_377 (lv_at hl 0 rfl) ?_
    refine lv_imul X.1 X.2.1 dL_acts_379 ?_
    refine mm_top (w := nI (5 * k)) (pk_mul 5 k) ?_
    refine lv_iconst X.1 X.2.1 (v := 3) dL_acts_380 (by decide) ?_
    refine lv_iadd X.1 X.2.1 dL_acts_381 ?_
    refine mm_top (w := nI (5 * k + 3)) (nI_add (5 * k) 3) ?_
    refine mw_join hT 425 (0 + 1) (0 + 6) (fun r M1 => r = q_lapf yF (k + 1) k ∧ LW G o ad (f_pass_s x (nI mi)) z5 M1) (fun r M1 H locs hp hT => ?_) (fun J425 => ?_)
    · obtain ⟨rfl, hM⟩ := hp
      refine ml_ast X hT hM (k := 4) (j := 5 * k + 3) (by decide) (show 5 * k + 3 < 60 by omega) dL_acts_425 (fun M1 H locs hM hT => ?_)
      refine lv_iinc X.1 X.2.1 (k := 0) (v := nI (k + 1)) dL_acts_426 hl rfl (mm_inc (k)) (by decide) rfl (fun ls hl => ?_)
      refine lv_goto X.1 X.2.1 (tgt := 366) dL_acts_429 (by decide) ?_
      refine W.widen (k := 0 + 1) (n := 0 + 6) (show ((0 + 1) : Nat) ≤ 0 + 1 by omega) (show ((0 + 6) : Nat) ≤ 0 + 6 by omega) ?_
      exact ih366 (by omega) _ _ _ _ (⟨_, by rw [← q_lapf_s]; exact hR5.s15 k _, hM⟩) hT (lv_sub hl [0, 1, 2, 3, 4, 5, 6, 7, 8, 9, 10, 11, 12, 13] rfl)
    · skip
      refine lv_aload X.1 X.2.1 dL_acts_382 (lv_at hl 8 rfl) ?_
      refine lv_iconst X.1 X.2.1 (v := 5) dL_acts_384 (by decide) ?_
      refine lv_iload X.1 X.2.1 dL_acts_385 (lv_at hl 0 rfl) ?_
      refine lv_imul X.1 X.2.1 dL_acts_387 ?_
      refine mm_top (w := nI (5 * k)) (pk_mul 5 k) ?_
      refine lv_iconst X.1 X.2.1 (v := 3) dL_acts_388 (by decide) ?_
      refine lv_iadd X.1 X.2.1 dL_acts_389 ?_
      refine mm_top (w := nI (5 * k + 3)) (nI_add (5 * k) 3) ?_
      refine ml_ald X hT hM (k := 4) (j := 5 * k + 3) (by decide) (show 5 * k + 3 < 60 by omega) dL_acts_390 ?_
      refine mm_top (w := cg yF 15 k) (q4) ?_
      refine lv_if_ne X.1 X.2.1 (tgt := 416) dL_acts_391 (by decide) (fun c391 => ?_) (fun c391 => ?_)
      · skip
        refine lv_aload X.1 X.2.1 dL_acts_416 (lv_at hl 8 rfl) ?_
        refine lv_iconst X.1 X.2.1 (v := 5) dL_acts_418 (by decide) ?_
        refine lv_iload X.1 X.2.1 dL_acts_419 (lv_at hl 0 rfl) ?_
        refine lv_imul X.1 X.2.1 dL_acts_421 ?_
        refine mm_top (w := nI (5 * k)) (pk_mul 5 k) ?_
        refine lv_iconst X.1 X.2.1 (v := 3) dL_acts_422 (by decide) ?_
        refine lv_iadd X.1 X.2.1 dL_acts_423 ?_
        refine mm_top (w := nI (5 * k + 3)) (nI_add (5 * k) 3) ?_
        refine ml_ald X hT hM (k := 4) (j := 5 * k + 3) (by decide) (show 5 * k + 3 < 60 by omega) dL_acts_424 ?_
        refine mm_top (w := cg yF 15 k) (q4) ?_
        refine W.widen (k := 0 + 1) (n := 0 + 6) (show ((0 + 1) : Nat) ≤ 0 + 1 by omega) (show ((0 + 6) : Nat) ≤ 0 + 6 by omega) ?_
        exact J425 _ _ _ _ ⟨by unfold q_lapf; simp only [eL]; first | (simp [c391]; done) | (simp [c391, e409]; done), hM⟩ hT
      · skip
        refine lv_aload_n X.1 X.2.1 dL_acts_394 rfl (lv_at hl 10 rfl) ?_
        refine lv_iconst X.1 X.2.1 (v := 2) dL_acts_395 (by decide) ?_
        refine ml_ald X hT hM (k := 2) (j := 2) (by decide) (by decide) dL_acts_396 ?_
        refine mm_top (w := nI (ct x 5 + mi)) (eT5) ?_
        refine lv_aload X.1 X.2.1 dL_acts_397 (lv_at hl 8 rfl) ?_
        refine lv_iconst X.1 X.2.1 (v := 5) dL_acts_399 (by decide) ?_
        refine lv_iload X.1 X.2.1 dL_acts_400 (lv_at hl 0 rfl) ?_
        refine lv_imul X.1 X.2.1 dL_acts_402 ?_
        refine mm_top (w := nI (5 * k)) (pk_mul 5 k) ?_
        refine lv_iconst X.1 X.2.1 (v := 2) dL_acts_403 (by decide) ?_
        refine lv_iadd X.1 X.2.1 dL_acts_404 ?_
        refine mm_top (w := nI (5 * k + 2)) (nI_add (5 * k) 2) ?_
        refine ml_ald X hT hM (k := 4) (j := 5 * k + 2) (by decide) (show 5 * k + 2 < 60 by omega) dL_acts_405 ?_
        refine mm_top (w := nI t1) (q3) ?_
        refine lv_bipush X.1 X.2.1 (v := 60) dL_acts_406 (by decide) ?_
        refine lv_iadd X.1 X.2.1 dL_acts_408 ?_
        refine mm_top (w := nI (t1 + 60)) (nI_add t1 60) ?_
        refine lv_icmp_lt X.1 X.2.1 (tgt := 416) dL_acts_409 (by decide) (fun c409 => ?_) (fun c409 => ?_)
        · skip
          have e409 : ¬ t1 + 60 ≤ ct x 5 + mi := fun h => absurd c409 (nI_nlt h (by omega))
          refine lv_aload X.1 X.2.1 dL_acts_416 (lv_at hl 8 rfl) ?_
          refine lv_iconst X.1 X.2.1 (v := 5) dL_acts_418 (by decide) ?_
          refine lv_iload X.1 X.2.1 dL_acts_419 (lv_at hl 0 rfl) ?_
          refine lv_imul X.1 X.2.1 dL_acts_421 ?_
          refine mm_top (w := nI (5 * k)) (pk_mul 5 k) ?_
          refine lv_iconst X.1 X.2.1 (v := 3) dL_acts_422 (by decide) ?_
          refine lv_iadd X.1 X.2.1 dL_acts_423 ?_
          refine mm_top (w := nI (5 * k + 3)) (nI_add (5 * k) 3) ?_
          refine ml_ald X hT hM (k := 4) (j := 5 * k + 3) (by decide) (show 5 * k + 3 < 60 by omega) dL_acts_424 ?_
          refine mm_top (w := cg yF 15 k) (q4) ?_
          refine W.widen (k := 0 + 1) (n := 0 + 6) (show ((0 + 1) : Nat) ≤ 0 + 1 by omega) (show ((0 + 6) : Nat) ≤ 0 + 6 by omega) ?_
          exact J425 _ _ _ _ ⟨by unfold q_lapf; simp only [eL]; first | (simp [c391]; done) | (simp [c391, e409]; done), hM⟩ hT
        · skip
          have e409 : t1 + 60 ≤ ct x 5 + mi := Nat.le_of_not_lt (fun h => c409 (nI_lt h (by omega)))
          refine lv_iconst X.1 X.2.1 (v := 3) dL_acts_412 (by decide) ?_
          refine lv_goto X.1 X.2.1 (tgt := 425) dL_acts_413 (by decide) ?_
          refine W.widen (k := 0 + 1) (n := 0 + 6) (show ((0 + 1) : Nat) ≤ 0 + 1 by omega) (show ((0 + 6) : Nat) ≤ 0 + 6 by omega) ?_
          exact J425 _ _ _ _ ⟨by unfold q_lapf; simp only [eL]; first | (simp [c391]; done) | (simp [c391, e409]; done), hM⟩ hT
set_option maxHeartbeats 4000000 in
set_option maxRecDepth 100000 in
theorem k_acts_told {l : Launch} (hfl : l.stackTraces = false) {G : mw_G} {o : Nat} {ad : Nat → Nat} {x : s_T} {z : Nat → Nat → Int32} {M : mw_M} {N T wy zz : Nat} {zp : Program} {ze : Env} {zs_ : State} {zm : MethodId} {zb : List Frame} {zh : Method} {zc : Code} {ls : Array Slot} {H : Heap} {locs : List Loc} {M1 : mw_M} {mi : Nat} {z1 : Nat → Nat → Int32} (X : mw_B zp l zs_ zm zh zc cL_acts 15 yL_acts.cls G (mw_A M zs_.heap.size)) (hret : zh.sig.returnType = (some .boolean)) (hex : ex_N zs_) (hT : mw_T G (mw_A M zs_.heap.size) zs_ M1 H locs) (hM : LW G o ad x z1 M1) (hl : lv_has ls 15 [(11, .int ((q_tick x mi).2 + 0)), (10, .int (nI mi)), (9, .int (nI zz)), (8, .int (nI wy)), (7, .ref (ad 6)), (6, .ref (ad 5)), (5, .ref (ad 4)), (4, .ref (ad 3)), (3, .ref (ad 2)), (2, .ref (ad 1)), (1, .ref (ad 0)), (0, .ref o)]) (hS : LSt N T x z) (hN : N ≤ 499) (hTb : T ≤ 98000) (hmi : 1 ≤ mi ∧ (mi ≤ 40 ∨ mi ≤ 1440 ∧ ct x 5 < 90000)) (hR1 : LR (pO x mi) z1) : W zp l ze rm_L_acts zs_ zm ([.ref o, .ref (ad 0), .ref (ad 1), .ref (ad 2), .ref (ad 3), .ref (ad 4), .ref (ad 5), .ref (ad 6), .int (nI wy), .int (nI zz)] : List Value).toArray zb zh zc H locs (0) (0) (mw_E zb G M rm_L_acts (mw_pi (fun r M1 => r = 1 ∧ ∃ (x1 : s_T) (z1 : Nat → Nat → Int32) (T1 : Nat), LSt (N + 1) T1 x1 z1 ∧ (T1 ≤ T + 40 ∨ T1 ≤ 92000) ∧ LW G o ad x1 z1 M1)) ([.ref o, .ref (ad 0), .ref (ad 1), .ref (ad 2), .ref (ad 3), .ref (ad 4), .ref (ad 5), .ref (ad 6), .int (nI wy), .int (nI zz)] : List Value).toArray zs_) (F0 zm 228 ls []) := by
  obtain ⟨hR, hI, hq, hT5, hH⟩ := id hS
  have hV := q_inv_mono hq.1 (show N ≤ 512 by omega)
  have hX := q_inv_mono hq.1 (show N ≤ 511 by omega)
  obtain ⟨i2, i4, i10, i17, i22, i29, ilb, ils, ie, is_⟩ := id hI
  obtain ⟨v2, v4, v5⟩ := hV.le
  obtain ⟨sq, hsq, esq⟩ := id ils
  have h25 : ∀ j, j < ct x 29 → cg x 25 j = 0 ∨ cg x 25 j = 1 := fun j hj => (is_ j hj).2.1
  have eM6 : z1 2 6 = nI (ct x 29) := hR1.2.2.1.2.2.2.2.2.2.1.trans (congrArg nI ((J_outer h25 mi).2.2.1 29 (by decide)))
  have eT1 : z1 2 2 = nI (ct x 5 + mi) := hR1.2.2.1.2.2.1.trans (congrArg nI (J_outer h25 mi).1)
  refine lv_aload_n X.1 X.2.1 dL_acts_228 rfl (lv_at hl 11 rfl) ?_
  refine lv_iload X.1 X.2.1 dL_acts_229 (lv_at hl 1 rfl) ?_
  obtain ⟨Mx, Mt, b, w, eM, hds, eo, hA, ho, hL⟩ := hM
  have hT := mw_T_eq eM hT
  have hcc := c_pass (t := nI mi) hfl hA ho hX
  rw [eo] at hcc
  have hgg := hA.gate
  rw [eo] at hgg
  have hc0 : f_pass_c x (nI mi) = 0 := l_psc hmi.1 (by omega) (by omega)
  refine mr_goX X hT hds (mr_runVX X hT cb_RL_144 kw411 kw412 kw413 (b := o) (As := [.int (nI mi)]) hcc (mr_cell X hT (mw_or_l hgg) rfl) rfl rfl hl.1 ⟨Nat.le_of_ble_eq_true rfl, Nat.le_of_ble_eq_true rfl⟩ (Nat.le_of_ble_eq_true rfl) dL_acts_231 ⟨Nat.le_of_ble_eq_true rfl, Nat.le_of_ble_eq_true rfl⟩) (fun E ce9 q9 H locs hp hT h1 h2 h3 => False.elim (l_no hc0 hp)) (fun v M1 H locs hp hds hT => ?_)
  obtain ⟨r, rfl, -, rfl, b1, e00, w1, hA1, ho1⟩ := hp
  have hM : LW G o ad (f_pass_s x (nI mi)) z1 (mw_or M1 Mt) := ⟨M1, Mt, b1, w1, rfl, hds, e00.trans eo, hA1, ho1, hL⟩
  clear hA ho hL hcc hgg eo hA1 ho1 e00
  obtain ⟨M2, eM2⟩ : ∃ M2, M2 = mw_or M1 Mt := ⟨_, rfl⟩
  rw [← eM2] at hM
  have hT := mw_T_eq eM2.symm hT
  clear eM2 hds eM
  refine W.eq (g2 := F0 zm 234 ls (.int ((q_tick x (pn (nI mi))).2) :: _)) rfl ?_
  refine mm_top (w := (q_tick x mi).2) (by rw [pn_nI (show mi < 2 ^ 31 by omega)]) ?_
  have hq1 := st_pass hq (l_psc (x := x) hmi.1 (by omega) (by omega))
  have hX1 := q_inv_mono hq1.1 (show N + 1 ≤ 511 by omega)
  refine lv_iload X.1 X.2.1 dL_acts_234 (lv_at hl 0 rfl) ?_
  refine lv_icmp_ne X.1 X.2.1 (tgt := 243) dL_acts_236 (by decide) (fun c236 => absurd c236 (fun h => h (Int32.add_zero _).symm)) (fun c236 => ?_)
  refine lv_iconst X.1 X.2.1 (v := 1) dL_acts_239 (by decide) ?_
  refine lv_goto X.1 X.2.1 (tgt := 244) dL_acts_240 (by decide) ?_
  refine lv_istore X.1 X.2.1 dL_acts_244 hl (by decide) rfl (fun ls hl => ?_)
  by_cases d246 : (decide (cN x mi = 0)) = true
  · skip
    refine lv_aload_n X.1 X.2.1 dL_acts_246 rfl (lv_at hl 9 rfl) ?_
    have hN0 : cN x mi = 0 := of_decide_eq_true d246
    refine lv_iconst X.1 X.2.1 (v := 2) dL_acts_247 (by decide) ?_
    refine ml_ald X hT hM (k := 2) (j := 2) (by decide) (by decide) dL_acts_248 ?_
    refine mm_top (w := nI (ct x 5 + mi)) (eT1) ?_
    refine lv_iload X.1 X.2.1 dL_acts_249 (lv_at hl 2 rfl) ?_
    refine lv_isub X.1 X.2.1 dL_acts_251 ?_
    refine mm_top (w := nI (ct x 5)) ((pk_sub (a := ct x 5 + mi) (b := mi) (by omega)).trans (congrArg nI (by omega))) ?_
    refine lv_iconst X.1 X.2.1 (v := 1) dL_acts_252 (by decide) ?_
    refine lv_iadd X.1 X.2.1 dL_acts_253 ?_
    refine mm_top (w := nI (ct x 5 + 1)) (nI_add (ct x 5) 1) ?_
    refine lv_istore X.1 X.2.1 dL_acts_254 hl (by decide) rfl (fun ls hl => ?_)
    refine lv_iload X.1 X.2.1 dL_acts_256 (lv_at hl 0 rfl) ?_
    refine lv_aload_n X.1 X.2.1 dL_acts_258 rfl (lv_at hl 10 rfl) ?_
    refine lv_iconst X.1 X.2.1 (v := 2) dL_acts_259 (by decide) ?_
    refine ml_ald X hT hM (k := 2) (j := 2) (by decide) (by decide) dL_acts_260 ?_
    refine mm_top (w := nI (ct x 5 + mi)) (eT1) ?_
    refine lv_icmp_gt X.1 X.2.1 (tgt := 363) dL_acts_261 (by decide) (fun c261 => absurd c261 (nI_nlt (a := ct x 5 + mi) (b := ct x 5 + 1) (by omega) (by omega))) (fun c261 => ?_)
    refine lv_iload X.1 X.2.1 dL_acts_264 (lv_at hl 2 rfl) ?_
    refine lv_if_le X.1 X.2.1 (tgt := 363) dL_acts_266 (by decide) (fun c266 => ?_) (fun c266 => absurd (by rw [Int32.add_zero, cN_eq, hN0]; decide) c266)
    have hRF := pR_end h25 (by rw [pRO_none hN0 mi (Nat.le_refl _)]; exact hR1)
    refine lv_iconst X.1 X.2.1 (v := 0) dL_acts_363 (by decide) ?_
    refine lv_istore X.1 X.2.1 dL_acts_364 hl (by decide) rfl (fun ls hl => ?_)
    exact k_acts_lap hfl X hret hex hT hM hl hS hN hTb hmi hRF
  · have d246 : (decide (cN x mi = 0)) = false := Bool.eq_false_iff.mpr d246
    refine lv_aload_n X.1 X.2.1 dL_acts_246 rfl (lv_at hl 9 rfl) ?_
    have hN0 : ¬ cN x mi = 0 := of_decide_eq_false d246
    refine lv_iconst X.1 X.2.1 (v := 2) dL_acts_247 (by decide) ?_
    refine ml_ald X hT hM (k := 2) (j := 2) (by decide) (by decide) dL_acts_248 ?_
    refine mm_top (w := nI (ct x 5 + mi)) (eT1) ?_
    refine lv_iload X.1 X.2.1 dL_acts_249 (lv_at hl 2 rfl) ?_
    refine lv_isub X.1 X.2.1 dL_acts_251 ?_
    refine mm_top (w := nI (ct x 5)) ((pk_sub (a := ct x 5 + mi) (b := mi) (by omega)).trans (congrArg nI (by omega))) ?_
    refine lv_iconst X.1 X.2.1 (v := 1) dL_acts_252 (by decide) ?_
    refine lv_iadd X.1 X.2.1 dL_acts_253 ?_
    refine mm_top (w := nI (ct x 5 + 1)) (nI_add (ct x 5) 1) ?_
    refine lv_istore X.1 X.2.1 dL_acts_254 hl (by decide) rfl (fun ls hl => ?_)
    refine W.widen (k := (fun _ => 0 + 1) 0) (n := (fun _ => 0 + 6) 0) (show ((0 + 1) : Nat) ≤ 0 + 1 by omega) (show ((0 + 6) : Nat) ≤ 0 + 6 by omega) ?_
    refine mw_loopC (nL := 15) (n := mi) (fun k M1 => ∃ z1 : Nat → Nat → Int32, LR (pRO x mi k) z1 ∧ LW G o ad (f_pass_s x (nI mi)) z1 M1) (fun k => [(13, .int (nI (ct x 5 + k + 1))), (12, .int 1), (11, .int ((q_tick x mi).2 + 0)), (10, .int (nI mi)), (9, .int (nI zz)), (8, .int (nI wy)), (7, .ref (ad 6)), (6, .ref (ad 5)), (5, .ref (ad 4)), (4, .ref (ad 3)), (3, .ref (ad 2)), (2, .ref (ad 1)), (1, .ref (ad 0)), (0, .ref o)]) (fun _ => 0 + 1) (fun _ => 0 + 6) (fun k hk ih256 M1 H locs ls hM hT hl => ?_) ⟨z1, hR1, hM⟩ hT (lv_sub hl [0, 1, 2, 3, 4, 5, 6, 7, 8, 9, 10, 11, 12, 13] rfl)
    obtain ⟨z3, hR3, hM⟩ := hM
    have hJ3 := JR_outer h25 mi k
    have eT3 : z3 2 2 = nI (ct x 5 + mi) := hR3.2.2.1.2.2.1.trans (congrArg nI ((hJ3.1 5 (by decide)).trans (J_outer h25 mi).1))
    refine lv_iload X.1 X.2.1 dL_acts_256 (lv_at hl 0 rfl) ?_
    refine lv_aload_n X.1 X.2.1 dL_acts_258 rfl (lv_at hl 10 rfl) ?_
    refine lv_iconst X.1 X.2.1 (v := 2) dL_acts_259 (by decide) ?_
    refine ml_ald X hT hM (k := 2) (j := 2) (by decide) (by decide) dL_acts_260 ?_
    refine mm_top (w := nI (ct x 5 + mi)) (eT3) ?_
    refine lv_icmp_gt X.1 X.2.1 (tgt := 363) dL_acts_261 (by decide) (fun c261 => ?_) (fun c261 => ?_)
    · skip
      have hkn : k = mi := by have h := (nI_ltI (by omega) (by omega)).mp c261; omega
      subst hkn
      have hRF := pR_end h25 hR3
      refine lv_iconst X.1 X.2.1 (v := 0) dL_acts_363 (by decide) ?_
      refine lv_istore X.1 X.2.1 dL_acts_364 hl (by decide) rfl (fun ls hl => ?_)
      exact k_acts_lap hfl X hret hex hT hM hl hS hN hTb hmi hRF
    · skip
      have hkl : k < mi := by have h : ¬ ct x 5 + mi < ct x 5 + k + 1 := fun h => c261 (nI_lt h (by omega)); omega
      refine lv_iload X.1 X.2.1 dL_acts_264 (lv_at hl 2 rfl) ?_
      refine lv_if_le X.1 X.2.1 (tgt := 363) dL_acts_266 (by decide) (fun c266 => absurd c266 (by rw [Int32.add_zero, cN_eq]; exact nI_nle (Nat.pos_of_ne_zero hN0) (Nat.lt_of_le_of_lt (Nat.le_trans (cN_le x mi) (Nat.mul_le_mul (show mi ≤ 1440 by omega) i29)) (by decide)))) (fun c266 => ?_)
      refine lv_iconst X.1 X.2.1 (v := 0) dL_acts_269 (by decide) ?_
      refine lv_istore X.1 X.2.1 dL_acts_270 hl (by decide) rfl (fun ls hl => ?_)
      refine W.widen (k := (fun _ => 0 + 1) 0) (n := (fun _ => 0 + 6) 0) (show ((0 + 1) : Nat) ≤ 0 + 1 by omega) (show ((0 + 6) : Nat) ≤ 0 + 6 by omega) ?_
      refine mw_loopC (nL := 15) (n := ct x 29) (fun j M1 => ∃ z1 : Nat → Nat → Int32, LR (pR1 x (pRO x mi k) k j) z1 ∧ LW G o ad (f_pass_s x (nI mi)) z1 M1) (fun j => [(14, .int (nI j)), (13, .int (nI (ct x 5 + k + 1))), (12, .int 1), (11, .int ((q_tick x mi).2 + 0)), (10, .int (nI mi)), (9, .int (nI zz)), (8, .int (nI wy)), (7, .ref (ad 6)), (6, .ref (ad 5)), (5, .ref (ad 4)), (4, .ref (ad 3)), (3, .ref (ad 2)), (2, .ref (ad 1)), (1, .ref (ad 0)), (0, .ref o)]) (fun _ => 0 + 1) (fun _ => 0 + 6) (fun j hj ih272 M1 H locs ls hM hT hl => ?_) ⟨z3, hR3, hM⟩ hT (lv_sub hl [0, 1, 2, 3, 4, 5, 6, 7, 8, 9, 10, 11, 12, 13, 14] rfl)
      obtain ⟨z4, hR4, hM⟩ := hM
      have hJ := JR_in h25 mi k j
      have hJw := J_in h25 k j hj
      obtain ⟨yj, eyj⟩ : ∃ w, w = pR1 x (pRO x mi k) k j := ⟨_, rfl⟩
      rw [← eyj] at hR4 hJ
      have eM6 : z4 2 6 = nI (ct x 29) := hR4.2.2.1.2.2.2.2.2.2.1.trans (congrArg nI ((hJ.1 29 (by decide)).trans ((J_outer h25 mi).2.2.1 29 (by decide))))
      refine lv_iload X.1 X.2.1 dL_acts_272 (lv_at hl 0 rfl) ?_
      refine lv_aload_n X.1 X.2.1 dL_acts_274 rfl (lv_at hl 11 rfl) ?_
      refine lv_bipush X.1 X.2.1 (v := 6) dL_acts_275 (by decide) ?_
      refine ml_ald X hT hM (k := 2) (j := 6) (by decide) (by decide) dL_acts_277 ?_
      refine mm_top (w := nI (ct x 29)) (eM6) ?_
      refine lv_icmp_ge X.1 X.2.1 (tgt := 357) dL_acts_278 (by decide) (fun c278 => ?_) (fun c278 => ?_)
      · skip
        have hjn := mm_exit hj (show ct x 29 < 2 ^ 31 by omega) c278
        subst hjn
        have hR3 : LR (pRO x mi (k + 1)) z4 := by show LR (pR1 x (pRO x mi k) k (ct x 29)) z4; rw [← eyj]; exact hR4
        obtain ⟨z3, ez⟩ : ∃ q, q = z4 := ⟨_, rfl⟩
        rw [← ez] at hR3 hM
        refine lv_iinc X.1 X.2.1 (k := 1) (v := nI (ct x 5 + k + 1 + 1)) dL_acts_357 hl rfl (mm_inc (ct x 5 + k + 1)) (by decide) rfl (fun ls hl => ?_)
        refine lv_goto X.1 X.2.1 (tgt := 256) dL_acts_360 (by decide) ?_
        refine W.widen (k := 0 + 1) (n := 0 + 6) (show ((0 + 1) : Nat) ≤ 0 + 1 by omega) (show ((0 + 6) : Nat) ≤ 0 + 6 by omega) ?_
        exact ih256 (by omega) _ _ _ _ (⟨z3, hR3, hM⟩) hT (lv_sub hl [0, 2, 3, 4, 5, 6, 7, 8, 9, 10, 11, 12, 13, 14] rfl)
      · skip
        have hjl := mm_stay hj (show ct x 29 < 2 ^ 31 by omega) c278
        obtain ⟨⟨u, hu, eu⟩, ⟨v, hv, ev⟩⟩ := hX.se hjl
        obtain ⟨⟨t1, ht1, et⟩, o25, o27⟩ := is_ j hjl
        obtain ⟨q1, q2, q3, q4, q5⟩ := hR4.2.2.2.2.2.2 j (by rw [hJ.1 29 (by decide), (J_outer h25 mi).2.2.1 29 (by decide)]; exact hjl)
        rw [hJ.2.2.2.2.1 23 (by decide) (by decide) (by decide), hJ.2.2.2.2.1 24 (by decide) (by decide) (by decide), (J_outer h25 mi).2.2.2.2.1 23 (by decide) (by decide), (J_outer h25 mi).2.2.2.2.1 24 (by decide) (by decide), eu, ev, l_pr] at q1
        have eP := pR_test h25 hJ hjl hkl (by omega)
        refine lv_aload X.1 X.2.1 dL_acts_281 (lv_at hl 7 rfl) ?_
        refine lv_iconst X.1 X.2.1 (v := 5) dL_acts_283 (by decide) ?_
        refine lv_iload X.1 X.2.1 dL_acts_284 (lv_at hl 0 rfl) ?_
        refine lv_imul X.1 X.2.1 dL_acts_286 ?_
        refine mm_top (w := nI (5 * j)) (pk_mul 5 j) ?_
        refine lv_iconst X.1 X.2.1 (v := 1) dL_acts_287 (by decide) ?_
        refine lv_iadd X.1 X.2.1 dL_acts_288 ?_
        refine mm_top (w := nI (5 * j + 1)) (nI_add (5 * j) 1) ?_
        refine ml_ald X hT hM (k := 6) (j := 5 * j + 1) (by decide) (show 5 * j + 1 < 60 by omega) dL_acts_289 ?_
        refine mm_top (w := cg yj 25 j) (q2) ?_
        refine lv_iconst X.1 X.2.1 (v := 2) dL_acts_290 (by decide) ?_
        refine lv_iload X.1 X.2.1 dL_acts_291 (lv_at hl 1 rfl) ?_
        refine lv_iadd X.1 X.2.1 dL_acts_293 ?_
        refine mm_top (w := nI (2 + (ct x 5 + k + 1))) (nI_add 2 (ct x 5 + k + 1)) ?_
        refine lv_icmp_ne X.1 X.2.1 (tgt := 351) dL_acts_294 (by decide) (fun c294 => ?_) (fun c294 => ?_)
        · skip
          have hD : pD x k j = false := Bool.eq_false_iff.mpr (fun h => c294 (eP.mpr h))
          refine lv_iinc X.1 X.2.1 (k := 0) (v := nI (j + 1)) dL_acts_351 hl rfl (mm_inc (j)) (by decide) rfl (fun ls hl => ?_)
          refine lv_goto X.1 X.2.1 (tgt := 272) dL_acts_354 (by decide) ?_
          refine W.widen (k := 0 + 1) (n := 0 + 6) (show ((0 + 1) : Nat) ≤ 0 + 1 by omega) (show ((0 + 6) : Nat) ≤ 0 + 6 by omega) ?_
          exact ih272 (by omega) _ _ _ _ (⟨z4, by rw [pR1_f hD, ← eyj]; exact hR4, hM⟩) hT (lv_sub hl [0, 1, 2, 3, 4, 5, 6, 7, 8, 9, 10, 11, 12, 13, 14] rfl)
        · skip
          have hD : pD x k j = true := eP.mp c294
          refine lv_aload X.1 X.2.1 dL_acts_297 (lv_at hl 7 rfl) ?_
          refine lv_iconst X.1 X.2.1 (v := 5) dL_acts_299 (by decide) ?_
          refine lv_iload X.1 X.2.1 dL_acts_300 (lv_at hl 0 rfl) ?_
          refine lv_imul X.1 X.2.1 dL_acts_302 ?_
          refine mm_top (w := nI (5 * j)) (pk_mul 5 j) ?_
          refine lv_iconst X.1 X.2.1 (v := 1) dL_acts_303 (by decide) ?_
          refine lv_iadd X.1 X.2.1 dL_acts_304 ?_
          refine mm_top (w := nI (5 * j + 1)) (nI_add (5 * j) 1) ?_
          refine lv_iconst X.1 X.2.1 (v := 0) dL_acts_305 (by decide) ?_
          refine ml_ast X hT hM (k := 6) (j := 5 * j + 1) (by decide) (show 5 * j + 1 < 60 by omega) dL_acts_306 (fun M1 H locs hM hT => ?_)
          refine lv_iload X.1 X.2.1 dL_acts_307 (lv_at hl 2 rfl) ?_
          refine lv_if_eq X.1 X.2.1 (tgt := 348) dL_acts_309 (by decide) (fun c309 => absurd c309 (by decide)) (fun _ => ?_)
          refine lv_aload_n X.1 X.2.1 dL_acts_312 rfl (lv_at hl 14 rfl) ?_
          refine lv_aload_n X.1 X.2.1 dL_acts_313 rfl (lv_at hl 11 rfl) ?_
          refine lv_bipush X.1 X.2.1 (v := 6) dL_acts_314 (by decide) ?_
          refine lv_aload X.1 X.2.1 dL_acts_316 (lv_at hl 7 rfl) ?_
          refine lv_iconst X.1 X.2.1 (v := 5) dL_acts_318 (by decide) ?_
          refine lv_iload X.1 X.2.1 dL_acts_319 (lv_at hl 0 rfl) ?_
          refine lv_imul X.1 X.2.1 dL_acts_321 ?_
          refine mm_top (w := nI (5 * j)) (pk_mul 5 j) ?_
          refine ml_ald X hT hM (k := 6) (j := 5 * j) (by decide) (show 5 * j < 60 by omega) dL_acts_322 ?_
          refine mm_top (w := nI (8 * u + v)) (by rw [zs_get, if_pos rfl, if_neg (by omega)]; exact q1) ?_
          refine lv_bipush X.1 X.2.1 (v := 8) dL_acts_323 (by decide) ?_
          refine lv_idiv X.1 X.2.1 dL_acts_325 (by decide) ?_
          refine mm_top (w := nI ((8 * u + v) / 8)) (pk_div (a := 8 * u + v) (d := 8) (by omega) (by omega) (by omega)) ?_
          refine mm_top (w := nI u) (congrArg nI (show (8 * u + v) / 8 = u by omega)) ?_
          refine lv_aload X.1 X.2.1 dL_acts_326 (lv_at hl 7 rfl) ?_
          refine lv_iconst X.1 X.2.1 (v := 5) dL_acts_328 (by decide) ?_
          refine lv_iload X.1 X.2.1 dL_acts_329 (lv_at hl 0 rfl) ?_
          refine lv_imul X.1 X.2.1 dL_acts_331 ?_
          refine mm_top (w := nI (5 * j)) (pk_mul 5 j) ?_
          refine ml_ald X hT hM (k := 6) (j := 5 * j) (by decide) (show 5 * j < 60 by omega) dL_acts_332 ?_
          refine mm_top (w := nI (8 * u + v)) (by rw [zs_get, if_pos rfl, if_neg (by omega)]; exact q1) ?_
          refine lv_bipush X.1 X.2.1 (v := 8) dL_acts_333 (by decide) ?_
          refine lv_irem X.1 X.2.1 dL_acts_335 (by decide) ?_
          refine mm_top (w := nI ((8 * u + v) % 8)) (pk_rem (a := 8 * u + v) (d := 8) (by omega) (by omega) (by omega)) ?_
          refine mm_top (w := nI v) (congrArg nI (show (8 * u + v) % 8 = v by omega)) ?_
          refine lv_iload X.1 X.2.1 dL_acts_336 (lv_at hl 1 rfl) ?_
          have hVw : q_inv 511 (pW x k j) := q_inv_close (q_inv_clock (q_inv_tick hX k (by omega)) (Nat.le_succ _) (by rw [q_tick_5]; omega)) (-1) j (by rw [show ct (ss (q_tick x k).1 5 (ct (q_tick x k).1 5 + 1)) 29 = ct x 29 from pY_29 x k]; exact hj)
          have hIw : LI (pW x k j) := LI.close ((LI.tick hI hX k (by omega)).clock (Nat.le_succ _)) (q_inv_clock (q_inv_tick hX k (by omega)) (Nat.le_succ _) (by rw [q_tick_5]; omega)) (-1) j (by rw [show ct (ss (q_tick x k).1 5 (ct (q_tick x k).1 5 + 1)) 29 = ct x 29 from pY_29 x k]; exact hj)
          obtain ⟨sw, hsw, esw⟩ := hIw.2.2.2.2.2.2.2.1
          have eqL : q_last yj = q_last (pW x k j) := by unfold q_last; rw [hJ.2.1, hJ.2.2.2.1]
          have e5w : ct (pW x k j) 5 = ct x 5 + k + 1 := hJw.2.1
          have ew23 : cg (pW x k j) 23 j = nI u := (congrFun (hJw.2.2.2.2.2.1 23 (by decide) (by decide) (by decide) (by decide)) j).trans eu
          have ew24 : cg (pW x k j) 24 j = nI v := (congrFun (hJw.2.2.2.2.2.1 24 (by decide) (by decide) (by decide) (by decide)) j).trans ev
          have hx1 : q_ext (q_shut (pW x k j) j) (f_pass_s x (nI mi)) := by have h := q_ext_pW (x := x) (k := k) (i := j + 1) (m := mi) (by omega) hkl (by omega); rw [pW_t hD] at h; exact h
          have hx2 : q_ext (q_write (cs (cs (pW x k j) 25 j 0) 27 j (-1)) 6 (cg (pW x k j) 23 j) (cg (pW x k j) 24 j)) (f_pass_s x (nI mi)) := hx1
          obtain ⟨g1, g2, g3⟩ := q_ext_at hx2
          rw [q_seal_shut, ew23, ew24] at g3
          have eS : q_seal (pW x k j) 6 (nI u) (nI v) = nI ((31 * sw + 6 + 10 * u + 200 * v + 2000 * (ct x 5 + k + 1)) % 1000003) := by have h := q_seal_nI (k := 6) esw hsw (by decide) (show u < 12 by omega) (show v < 8 by omega) hVw.le.2.2; rw [e5w] at h; exact h
          rw [eS] at g3
          have hLR := (hR4.s25 j 0).rw (pW x k (j + 1))
          rw [show q_last (pW x k (j + 1)) = nI ((31 * sw + 6 + 10 * u + 200 * v + 2000 * (ct x 5 + k + 1)) % 1000003) by rw [pW_t hD]; show q_last (q_write _ _ _ _) = _; rw [q_last_write, q_seal_shut, ew23, ew24]; exact eS, show ct (pW x k (j + 1)) 32 = ct (pW x k j) 32 + 1 by rw [pW_t hD]; rfl] at hLR
          refine mr_g X hT (fun hT' => mr_runS X hT' cb_RL_38 kw418 kw419 (As := [.ref o, .ref (ad 2), .int 6, .int (nI u), .int (nI v), .int (nI (ct x 5 + k + 1))]) (k_isStep hfl hM hX1 (s := sw) (n := ct (pW x k j) 32) (kd := 6) (p := u) (m := v) (tt := ct x 5 + k + 1) (by rw [zs_get, if_neg (by decide)]; exact (hR4.2.2.1.2.2.2.2.2.2.2.2).trans (eqL.trans esw)) hsw (by rw [zs_get, if_neg (by decide)]; exact (hR4.2.2.1.2.2.2.2.2.2.2.1).trans (congrArg nI hJ.2.1)) (by decide) (by omega) (by omega) (by omega) g1 g2 g3) rfl rfl hl.1 ⟨Nat.le_of_ble_eq_true rfl, Nat.le_of_ble_eq_true rfl⟩ (Nat.le_of_ble_eq_true rfl) dL_acts_338 ⟨Nat.le_of_ble_eq_true rfl, Nat.le_of_ble_eq_true rfl⟩) (fun v M1 H locs hp hT => ?_)
          obtain ⟨r, rfl, rfl, hM⟩ := hp
          refine W.eq (g2 := F0 zm 341 ls (.int 1 :: _)) rfl ?_
          refine lv_if_eq X.1 X.2.1 (tgt := 348) dL_acts_341 (by decide) (fun c341 => absurd c341 (by decide)) (fun _ => ?_)
          refine lv_iconst X.1 X.2.1 (v := 1) dL_acts_344 (by decide) ?_
          refine lv_goto X.1 X.2.1 (tgt := 349) dL_acts_345 (by decide) ?_
          refine lv_istore X.1 X.2.1 dL_acts_349 hl (by decide) rfl (fun ls hl => ?_)
          refine lv_iinc X.1 X.2.1 (k := 1) (v := nI (j + 1)) dL_acts_351 hl rfl (mm_inc (j)) (by decide) rfl (fun ls hl => ?_)
          refine lv_goto X.1 X.2.1 (tgt := 272) dL_acts_354 (by decide) ?_
          refine W.widen (k := 0 + 1) (n := 0 + 6) (show ((0 + 1 + 0) : Nat) ≤ 0 + 1 by omega) (show ((0 + 6 + 0) : Nat) ≤ 0 + 6 by omega) ?_
          exact ih272 (by omega) _ _ _ _ (⟨_, by rw [pR1_t hD, ← eyj]; exact hLR, hM⟩) hT (lv_sub hl [0, 2, 1, 3, 4, 5, 6, 7, 8, 9, 10, 11, 12, 13, 14] rfl)
set_option maxHeartbeats 4000000 in
set_option maxRecDepth 100000 in
theorem k_acts_pass {l : Launch} (hfl : l.stackTraces = false) {G : mw_G} {o : Nat} {ad : Nat → Nat} {x : s_T} {z : Nat → Nat → Int32} {M : mw_M} {N T wy zz : Nat} {zp : Program} {ze : Env} {zs_ : State} {zm : MethodId} {zb : List Frame} {zh : Method} {zc : Code} {ls : Array Slot} {H : Heap} {locs : List Loc} {M1 : mw_M} {mi : Nat} (X : mw_B zp l zs_ zm zh zc cL_acts 15 yL_acts.cls G (mw_A M zs_.heap.size)) (hret : zh.sig.returnType = (some .boolean)) (hex : ex_N zs_) (hT : mw_T G (mw_A M zs_.heap.size) zs_ M1 H locs) (hM : LW G o ad x z M1) (hl : lv_has ls 15 [(10, .int (nI mi)), (0, .ref o), (1, .ref (ad 0)), (2, .ref (ad 1)), (3, .ref (ad 2)), (4, .ref (ad 3)), (5, .ref (ad 4)), (6, .ref (ad 5)), (7, .ref (ad 6)), (8, .int (nI wy)), (9, .int (nI zz))]) (hS : LSt N T x z) (hN : N ≤ 499) (hTb : T ≤ 98000) (hmi : 1 ≤ mi ∧ (mi ≤ 40 ∨ mi ≤ 1440 ∧ ct x 5 < 90000)) : W zp l ze rm_L_acts zs_ zm ([.ref o, .ref (ad 0), .ref (ad 1), .ref (ad 2), .ref (ad 3), .ref (ad 4), .ref (ad 5), .ref (ad 6), .int (nI wy), .int (nI zz)] : List Value).toArray zb zh zc H locs (0) (0) (mw_E zb G M rm_L_acts (mw_pi (fun r M1 => r = 1 ∧ ∃ (x1 : s_T) (z1 : Nat → Nat → Int32) (T1 : Nat), LSt (N + 1) T1 x1 z1 ∧ (T1 ≤ T + 40 ∨ T1 ≤ 92000) ∧ LW G o ad x1 z1 M1)) ([.ref o, .ref (ad 0), .ref (ad 1), .ref (ad 2), .ref (ad 3), .ref (ad 4), .ref (ad 5), .ref (ad 6), .int (nI wy), .int (nI zz)] : List Value).toArray zs_) (F0 zm 54 ls []) := by
  obtain ⟨hR, hI, hq, hT5, hH⟩ := id hS
  have hV := q_inv_mono hq.1 (show N ≤ 512 by omega)
  have hX := q_inv_mono hq.1 (show N ≤ 511 by omega)
  obtain ⟨i2, i4, i10, i17, i22, i29, ilb, ils, ie, is_⟩ := id hI
  obtain ⟨v2, v4, v5⟩ := hV.le
  obtain ⟨sq, hsq, esq⟩ := id ils
  have h25 : ∀ j, j < ct x 29 → cg x 25 j = 0 ∨ cg x 25 j = 1 := fun j hj => (is_ j hj).2.1
  refine lv_iconst X.1 X.2.1 (v := 0) dL_acts_54 (by decide) ?_
  refine mm_top (w := (q_tick x 0).2 + 0) ((Int32.add_zero _).symm) ?_
  refine lv_istore X.1 X.2.1 dL_acts_55 hl (by decide) rfl (fun ls hl => ?_)
  refine lv_iconst X.1 X.2.1 (v := 0) dL_acts_57 (by decide) ?_
  refine lv_istore X.1 X.2.1 dL_acts_58 hl (by decide) rfl (fun ls hl => ?_)
  refine W.widen (k := (fun _ => 0) 0) (n := (fun _ => 0) 0) (show ((0) : Nat) ≤ 0 by omega) (show ((0) : Nat) ≤ 0 by omega) ?_
  refine mw_loopC (nL := 15) (n := mi) (fun k M1 => ∃ z1 : Nat → Nat → Int32, LR (pO x k) z1 ∧ LW G o ad x z1 M1) (fun k => [(12, .int (nI k)), (11, .int ((q_tick x k).2 + 0)), (10, .int (nI mi)), (9, .int (nI zz)), (8, .int (nI wy)), (7, .ref (ad 6)), (6, .ref (ad 5)), (5, .ref (ad 4)), (4, .ref (ad 3)), (3, .ref (ad 2)), (2, .ref (ad 1)), (1, .ref (ad 0)), (0, .ref o)]) (fun _ => 0) (fun _ => 0) (fun k hk ih60 M1 H locs ls hM hT hl => ?_) ⟨z, hR, hM⟩ hT (lv_sub hl [0, 1, 2, 12, 11, 10, 9, 8, 7, 6, 5, 4, 3] rfl)
  obtain ⟨z1, hR1, hM⟩ := hM
  have hJ0 := J_outer h25 k
  have e5k : ct (pO x k) 5 = ct x 5 + k := hJ0.1
  have eT0 : z1 2 2 = nI (ct x 5 + k) := hR1.2.2.1.2.2.1.trans (congrArg nI e5k)
  have eM6 : z1 2 6 = nI (ct x 29) := hR1.2.2.1.2.2.2.2.2.2.1.trans (congrArg nI (hJ0.2.2.1 29 (by decide)))
  refine lv_iload X.1 X.2.1 dL_acts_60 (lv_at hl 0 rfl) ?_
  refine lv_iload X.1 X.2.1 dL_acts_62 (lv_at hl 2 rfl) ?_
  refine lv_icmp_ge X.1 X.2.1 (tgt := 228) dL_acts_64 (by decide) (fun c64 => ?_) (fun c64 => ?_)
  · skip
    have hkn := mm_exit hk (show mi < 2 ^ 31 by omega) c64
    subst hkn
    have eT1 := eT0
    exact k_acts_told hfl X hret hex hT hM (lv_sub hl [1, 2, 3, 4, 5, 6, 7, 8, 9, 10, 11, 12] rfl) hS hN hTb hmi hR1
  · skip
    have hkl := mm_stay hk (show mi < 2 ^ 31 by omega) c64
    refine lv_aload_n X.1 X.2.1 dL_acts_67 rfl (lv_at hl 9 rfl) ?_
    refine lv_iconst X.1 X.2.1 (v := 2) dL_acts_68 (by decide) ?_
    refine lv_dup2_11 X.1 X.2.1 dL_acts_69 rfl rfl ?_
    refine ml_ald X hT hM (k := 2) (j := 2) (by decide) (by decide) dL_acts_70 ?_
    refine mm_top (w := nI (ct x 5 + k)) (eT0) ?_
    refine lv_iconst X.1 X.2.1 (v := 1) dL_acts_71 (by decide) ?_
    refine lv_iadd X.1 X.2.1 dL_acts_72 ?_
    refine mm_top (w := nI (ct x 5 + k + 1)) (nI_add (ct x 5 + k) 1) ?_
    refine ml_ast X hT hM (k := 2) (j := 2) (by decide) (by decide) dL_acts_73 (fun M1 H locs hM hT => ?_)
    refine lv_iconst X.1 X.2.1 (v := 0) dL_acts_74 (by decide) ?_
    refine lv_istore X.1 X.2.1 dL_acts_75 hl (by decide) rfl (fun ls hl => ?_)
    refine W.widen (k := (fun _ => 0) 0) (n := (fun _ => 0) 0) (show ((0) : Nat) ≤ 0 by omega) (show ((0) : Nat) ≤ 0 by omega) ?_
    refine mw_loopC (nL := 15) (n := ct x 29) (fun j M1 => ∃ z1 : Nat → Nat → Int32, LR (pI1 x (ss (pO x k) 5 (ct x 5 + k + 1)) k j) z1 ∧ LW G o ad x z1 M1) (fun j => [(13, .int (nI j)), (12, .int (nI k)), (11, .int ((q_tick x k).2 + (q_close (pY x k) (-1) j).2)), (10, .int (nI mi)), (9, .int (nI zz)), (8, .int (nI wy)), (7, .ref (ad 6)), (6, .ref (ad 5)), (5, .ref (ad 4)), (4, .ref (ad 3)), (3, .ref (ad 2)), (2, .ref (ad 1)), (1, .ref (ad 0)), (0, .ref o)]) (fun _ => 0) (fun _ => 0) (fun j hj ih77 M1 H locs ls hM hT hl => ?_) ⟨_, LR.clk hR1 _, hM⟩ hT (lv_sub hl [0, 1, 2, 3, 4, 5, 6, 7, 8, 9, 10, 11, 12, 13] rfl)
    obtain ⟨z2, hR2, hM⟩ := hM
    have hJ := J_in h25 k j hj
    obtain ⟨yj, eyj⟩ : ∃ w, w = pI1 x (ss (pO x k) 5 (ct x 5 + k + 1)) k j := ⟨_, rfl⟩
    rw [← eyj] at hR2 hJ
    have eT : z2 2 2 = nI (ct x 5 + k + 1) := hR2.2.2.1.2.2.1.trans (congrArg nI hJ.1)
    have eM62 : z2 2 6 = nI (ct x 29) := hR2.2.2.1.2.2.2.2.2.2.1.trans (congrArg nI (hJ.2.2.1 29 (by decide)))
    refine lv_iload X.1 X.2.1 dL_acts_77 (lv_at hl 0 rfl) ?_
    refine lv_aload_n X.1 X.2.1 dL_acts_79 rfl (lv_at hl 10 rfl) ?_
    refine lv_bipush X.1 X.2.1 (v := 6) dL_acts_80 (by decide) ?_
    refine ml_ald X hT hM (k := 2) (j := 6) (by decide) (by decide) dL_acts_82 ?_
    refine mm_top (w := nI (ct x 29)) (eM62) ?_
    refine lv_icmp_ge X.1 X.2.1 (tgt := 222) dL_acts_83 (by decide) (fun c83 => ?_) (fun c83 => ?_)
    · skip
      have hjn := mm_exit hj (show ct x 29 < 2 ^ 31 by omega) c83
      subst hjn
      have hR1 : LR (pO x (k + 1)) z2 := by show LR (pI1 x (ss (pO x k) 5 (ct x 5 + k + 1)) k (ct x 29)) z2; rw [← eyj]; exact hR2
      have hM1 := hM
      obtain ⟨z1, ez⟩ : ∃ q, q = z2 := ⟨_, rfl⟩
      rw [← ez] at hR1 hM
      refine lv_iinc X.1 X.2.1 (k := 1) (v := nI (k + 1)) dL_acts_222 hl rfl (mm_inc (k)) (by decide) rfl (fun ls hl => ?_)
      refine lv_goto X.1 X.2.1 (tgt := 60) dL_acts_225 (by decide) ?_
      refine W.widen (k := 0) (n := 0) (show ((0) : Nat) ≤ 0 by omega) (show ((0) : Nat) ≤ 0 by omega) ?_
      exact ih60 (by omega) _ _ _ _ (⟨z1, hR1, hM⟩) hT (by rw [Int32.add_zero, ← pT_end]; exact lv_sub hl [0, 2, 3, 4, 5, 6, 7, 8, 9, 10, 11, 12, 13] rfl)
    · skip
      have hjl := mm_stay hj (show ct x 29 < 2 ^ 31 by omega) c83
      obtain ⟨⟨u, hu, eu⟩, ⟨v, hv, ev⟩⟩ := hX.se hjl
      obtain ⟨⟨t1, ht1, et⟩, o25, o27⟩ := is_ j hjl
      obtain ⟨q1, q2, q3, q4, q5⟩ := hR2.2.2.2.2.2.2 j (by rw [hJ.2.2.1 29 (by decide)]; exact hjl)
      rw [hJ.2.2.2.2.1 23 (by decide) (by decide), hJ.2.2.2.2.1 24 (by decide) (by decide), eu, ev, l_pr] at q1
      rw [hJ.2.2.2.2.1 26 (by decide) (by decide), et] at q3
      have eE := pD_eq hJ hjl (by omega) (show ct x 5 + k + 1 ≤ 100000 by omega) eu ev et (by omega) rfl
      have hVj : q_inv 512 yj := q_inv_pass hq.1 hJ i29 (by omega) (by omega) (by omega)
      refine mw_join hT 141 (0) (0) (fun r M1 => r = bI (pD x k j) ∧ LW G o ad x z2 M1) (fun r M1 H locs hp hT => ?_) (fun J141 => ?_)
      · obtain ⟨rfl, hM⟩ := hp
        refine lv_istore X.1 X.2.1 dL_acts_141 hl (by decide) rfl (fun ls hl => ?_)
        refine lv_aload X.1 X.2.1 dL_acts_143 (lv_at hl 7 rfl) ?_
        refine lv_iconst X.1 X.2.1 (v := 5) dL_acts_145 (by decide) ?_
        refine lv_iload X.1 X.2.1 dL_acts_146 (lv_at hl 1 rfl) ?_
        refine lv_imul X.1 X.2.1 dL_acts_148 ?_
        refine mm_top (w := nI (5 * j)) (pk_mul 5 j) ?_
        refine lv_iconst X.1 X.2.1 (v := 1) dL_acts_149 (by decide) ?_
        refine lv_iadd X.1 X.2.1 dL_acts_150 ?_
        refine mm_top (w := nI (5 * j + 1)) (nI_add (5 * j) 1) ?_
        refine lv_iload X.1 X.2.1 dL_acts_151 (lv_at hl 0 rfl) ?_
        refine lv_if_eq X.1 X.2.1 (tgt := 164) dL_acts_153 (by decide) (fun c153 => ?_) (fun c153 => ?_)
        · skip
          have d153 : (pD x k j) = false := bI_0.mp c153
          refine lv_aload X.1 X.2.1 dL_acts_164 (lv_at hl 7 rfl) ?_
          refine lv_iconst X.1 X.2.1 (v := 5) dL_acts_166 (by decide) ?_
          refine lv_iload X.1 X.2.1 dL_acts_167 (lv_at hl 1 rfl) ?_
          refine lv_imul X.1 X.2.1 dL_acts_169 ?_
          refine mm_top (w := nI (5 * j)) (pk_mul 5 j) ?_
          refine lv_iconst X.1 X.2.1 (v := 1) dL_acts_170 (by decide) ?_
          refine lv_iadd X.1 X.2.1 dL_acts_171 ?_
          refine mm_top (w := nI (5 * j + 1)) (nI_add (5 * j) 1) ?_
          refine ml_ald X hT hM (k := 6) (j := 5 * j + 1) (by decide) (show 5 * j + 1 < 60 by omega) dL_acts_172 ?_
          refine mm_top (w := cg yj 25 j) (q2) ?_
          refine ml_ast X hT hM (k := 6) (j := 5 * j + 1) (by decide) (show 5 * j + 1 < 60 by omega) dL_acts_173 (fun M1 H locs hM hT => ?_)
          refine lv_aload X.1 X.2.1 dL_acts_174 (lv_at hl 7 rfl) ?_
          refine lv_iconst X.1 X.2.1 (v := 5) dL_acts_176 (by decide) ?_
          refine lv_iload X.1 X.2.1 dL_acts_177 (lv_at hl 1 rfl) ?_
          refine lv_imul X.1 X.2.1 dL_acts_179 ?_
          refine mm_top (w := nI (5 * j)) (pk_mul 5 j) ?_
          refine lv_iconst X.1 X.2.1 (v := 3) dL_acts_180 (by decide) ?_
          refine lv_iadd X.1 X.2.1 dL_acts_181 ?_
          refine mm_top (w := nI (5 * j + 3)) (nI_add (5 * j) 3) ?_
          refine lv_iload X.1 X.2.1 dL_acts_182 (lv_at hl 0 rfl) ?_
          refine lv_if_eq X.1 X.2.1 (tgt := 191) dL_acts_184 (by decide) (fun _ => ?_) (fun c184 => absurd (by rw [d153]; decide) c184)
          refine lv_aload X.1 X.2.1 dL_acts_191 (lv_at hl 7 rfl) ?_
          refine lv_iconst X.1 X.2.1 (v := 5) dL_acts_193 (by decide) ?_
          refine lv_iload X.1 X.2.1 dL_acts_194 (lv_at hl 1 rfl) ?_
          refine lv_imul X.1 X.2.1 dL_acts_196 ?_
          refine mm_top (w := nI (5 * j)) (pk_mul 5 j) ?_
          refine lv_iconst X.1 X.2.1 (v := 3) dL_acts_197 (by decide) ?_
          refine lv_iadd X.1 X.2.1 dL_acts_198 ?_
          refine mm_top (w := nI (5 * j + 3)) (nI_add (5 * j) 3) ?_
          refine ml_ald X hT hM (k := 6) (j := 5 * j + 3) (by decide) (show 5 * j + 3 < 60 by omega) dL_acts_199 ?_
          refine mm_top (w := cg yj 27 j + 1) (by rw [zs_get, if_pos rfl, if_neg (by omega)]; exact q4) ?_
          refine ml_ast X hT hM (k := 6) (j := 5 * j + 3) (by decide) (show 5 * j + 3 < 60 by omega) dL_acts_200 (fun M1 H locs hM hT => ?_)
          refine lv_iload X.1 X.2.1 dL_acts_201 (lv_at hl 3 rfl) ?_
          refine lv_iload X.1 X.2.1 dL_acts_203 (lv_at hl 0 rfl) ?_
          refine lv_if_eq X.1 X.2.1 (tgt := 212) dL_acts_205 (by decide) (fun _ => ?_) (fun c205 => absurd (by rw [d153]; decide) c205)
          refine lv_iconst X.1 X.2.1 (v := 0) dL_acts_212 (by decide) ?_
          refine lv_iadd X.1 X.2.1 dL_acts_213 ?_
          refine mm_top (w := (q_tick x k).2 + (q_close (pY x k) (-1) j).2) (Int32.add_zero _) ?_
          refine lv_istore X.1 X.2.1 dL_acts_214 hl (by decide) rfl (fun ls hl => ?_)
          refine lv_iinc X.1 X.2.1 (k := 2) (v := nI (j + 1)) dL_acts_216 hl rfl (mm_inc (j)) (by decide) rfl (fun ls hl => ?_)
          refine lv_goto X.1 X.2.1 (tgt := 77) dL_acts_219 (by decide) ?_
          have hLR := (hR2.s25 j (cg yj 25 j)).s27 j (cg yj 27 j)
          rw [cs_id, cs_id] at hLR
          refine W.widen (k := 0) (n := 0) (show ((0) : Nat) ≤ 0 by omega) (show ((0) : Nat) ≤ 0 by omega) ?_
          exact ih77 (by omega) _ _ _ _ (⟨_, by rw [pI1_f d153, ← eyj]; exact hLR, hM⟩) hT (by rw [q_close_f d153]; exact lv_sub hl [0, 3, 1, 4, 5, 6, 7, 8, 9, 10, 11, 12, 13, 14] rfl)
        · skip
          have d153 : (pD x k j) = true := bI_n.mp c153
          refine lv_iconst X.1 X.2.1 (v := 2) dL_acts_156 (by decide) ?_
          refine lv_aload_n X.1 X.2.1 dL_acts_157 rfl (lv_at hl 11 rfl) ?_
          refine lv_iconst X.1 X.2.1 (v := 2) dL_acts_158 (by decide) ?_
          refine ml_ald X hT hM (k := 2) (j := 2) (by decide) (by decide) dL_acts_159 ?_
          refine mm_top (w := nI (ct x 5 + k + 1)) (eT) ?_
          refine lv_iadd X.1 X.2.1 dL_acts_160 ?_
          refine mm_top (w := nI (2 + (ct x 5 + k + 1))) (nI_add 2 (ct x 5 + k + 1)) ?_
          refine lv_goto X.1 X.2.1 (tgt := 173) dL_acts_161 (by decide) ?_
          refine ml_ast X hT hM (k := 6) (j := 5 * j + 1) (by decide) (show 5 * j + 1 < 60 by omega) dL_acts_173 (fun M1 H locs hM hT => ?_)
          refine lv_aload X.1 X.2.1 dL_acts_174 (lv_at hl 7 rfl) ?_
          refine lv_iconst X.1 X.2.1 (v := 5) dL_acts_176 (by decide) ?_
          refine lv_iload X.1 X.2.1 dL_acts_177 (lv_at hl 1 rfl) ?_
          refine lv_imul X.1 X.2.1 dL_acts_179 ?_
          refine mm_top (w := nI (5 * j)) (pk_mul 5 j) ?_
          refine lv_iconst X.1 X.2.1 (v := 3) dL_acts_180 (by decide) ?_
          refine lv_iadd X.1 X.2.1 dL_acts_181 ?_
          refine mm_top (w := nI (5 * j + 3)) (nI_add (5 * j) 3) ?_
          refine lv_iload X.1 X.2.1 dL_acts_182 (lv_at hl 0 rfl) ?_
          refine lv_if_eq X.1 X.2.1 (tgt := 191) dL_acts_184 (by decide) (fun c184 => absurd c184 (by rw [d153]; decide)) (fun _ => ?_)
          refine lv_iconst X.1 X.2.1 (v := 0) dL_acts_187 (by decide) ?_
          refine lv_goto X.1 X.2.1 (tgt := 200) dL_acts_188 (by decide) ?_
          refine ml_ast X hT hM (k := 6) (j := 5 * j + 3) (by decide) (show 5 * j + 3 < 60 by omega) dL_acts_200 (fun M1 H locs hM hT => ?_)
          refine lv_iload X.1 X.2.1 dL_acts_201 (lv_at hl 3 rfl) ?_
          refine lv_iload X.1 X.2.1 dL_acts_203 (lv_at hl 0 rfl) ?_
          refine lv_if_eq X.1 X.2.1 (tgt := 212) dL_acts_205 (by decide) (fun c205 => absurd c205 (by rw [d153]; decide)) (fun _ => ?_)
          refine lv_iconst X.1 X.2.1 (v := 1) dL_acts_208 (by decide) ?_
          refine lv_goto X.1 X.2.1 (tgt := 213) dL_acts_209 (by decide) ?_
          refine lv_iadd X.1 X.2.1 dL_acts_213 ?_
          refine mm_top (w := (q_tick x k).2 + ((q_close (pY x k) (-1) j).2 + 1)) (Int32.add_assoc _ _ _) ?_
          refine lv_istore X.1 X.2.1 dL_acts_214 hl (by decide) rfl (fun ls hl => ?_)
          refine lv_iinc X.1 X.2.1 (k := 2) (v := nI (j + 1)) dL_acts_216 hl rfl (mm_inc (j)) (by decide) rfl (fun ls hl => ?_)
          refine lv_goto X.1 X.2.1 (tgt := 77) dL_acts_219 (by decide) ?_
          have hLR := (hR2.s25 j (nI (2 + (ct x 5 + k + 1)))).s27 j (-1)
          refine W.widen (k := 0) (n := 0) (show ((0) : Nat) ≤ 0 by omega) (show ((0) : Nat) ≤ 0 by omega) ?_
          exact ih77 (by omega) _ _ _ _ (⟨_, by rw [pI1_t d153, ← eyj]; exact hLR, hM⟩) hT (by rw [q_close_t d153]; exact lv_sub hl [0, 3, 1, 4, 5, 6, 7, 8, 9, 10, 11, 12, 13, 14] rfl)
      · skip
        refine lv_aload X.1 X.2.1 dL_acts_86 (lv_at hl 6 rfl) ?_
        refine lv_iconst X.1 X.2.1 (v := 5) dL_acts_88 (by decide) ?_
        refine lv_iload X.1 X.2.1 dL_acts_89 (lv_at hl 0 rfl) ?_
        refine lv_imul X.1 X.2.1 dL_acts_91 ?_
        refine mm_top (w := nI (5 * j)) (pk_mul 5 j) ?_
        refine lv_iconst X.1 X.2.1 (v := 1) dL_acts_92 (by decide) ?_
        refine lv_iadd X.1 X.2.1 dL_acts_93 ?_
        refine mm_top (w := nI (5 * j + 1)) (nI_add (5 * j) 1) ?_
        refine ml_ald X hT hM (k := 6) (j := 5 * j + 1) (by decide) (show 5 * j + 1 < 60 by omega) dL_acts_94 ?_
        refine mm_top (w := cg yj 25 j) (q2) ?_
        refine lv_iconst X.1 X.2.1 (v := 1) dL_acts_95 (by decide) ?_
        refine lv_icmp_ne X.1 X.2.1 (tgt := 140) dL_acts_96 (by decide) (fun c96 => ?_) (fun c96 => ?_)
        · skip
          refine lv_iconst X.1 X.2.1 (v := 0) dL_acts_140 (by decide) ?_
          refine W.widen (k := 0) (n := 0) (show ((0) : Nat) ≤ 0 by omega) (show ((0) : Nat) ≤ 0 by omega) ?_
          exact J141 _ _ _ _ ⟨by rw [eE]; first | (simp [bI, c96]; done) | (simp [bI, c96, e114]; done) | (simp [bI, c96, e114, d133]; done), hM⟩ hT
        · skip
          refine lv_aload_n X.1 X.2.1 dL_acts_99 rfl (lv_at hl 10 rfl) ?_
          refine lv_iconst X.1 X.2.1 (v := 2) dL_acts_100 (by decide) ?_
          refine ml_ald X hT hM (k := 2) (j := 2) (by decide) (by decide) dL_acts_101 ?_
          refine mm_top (w := nI (ct x 5 + k + 1)) (eT) ?_
          refine lv_aload X.1 X.2.1 dL_acts_102 (lv_at hl 6 rfl) ?_
          refine lv_iconst X.1 X.2.1 (v := 5) dL_acts_104 (by decide) ?_
          refine lv_iload X.1 X.2.1 dL_acts_105 (lv_at hl 0 rfl) ?_
          refine lv_imul X.1 X.2.1 dL_acts_107 ?_
          refine mm_top (w := nI (5 * j)) (pk_mul 5 j) ?_
          refine lv_iconst X.1 X.2.1 (v := 2) dL_acts_108 (by decide) ?_
          refine lv_iadd X.1 X.2.1 dL_acts_109 ?_
          refine mm_top (w := nI (5 * j + 2)) (nI_add (5 * j) 2) ?_
          refine ml_ald X hT hM (k := 6) (j := 5 * j + 2) (by decide) (show 5 * j + 2 < 60 by omega) dL_acts_110 ?_
          refine mm_top (w := nI t1) (q3) ?_
          refine lv_bipush X.1 X.2.1 (v := 15) dL_acts_111 (by decide) ?_
          refine lv_iadd X.1 X.2.1 dL_acts_113 ?_
          refine mm_top (w := nI (t1 + 15)) (nI_add t1 15) ?_
          refine lv_icmp_ge X.1 X.2.1 (tgt := 136) dL_acts_114 (by decide) (fun c114 => ?_) (fun c114 => ?_)
          · skip
            have e114 : t1 + 15 ≤ ct x 5 + k + 1 := (nI_leI (by omega) (by omega)).mp c114
            refine lv_iconst X.1 X.2.1 (v := 1) dL_acts_136 (by decide) ?_
            refine lv_goto X.1 X.2.1 (tgt := 141) dL_acts_137 (by decide) ?_
            refine W.widen (k := 0) (n := 0) (show ((0) : Nat) ≤ 0 by omega) (show ((0) : Nat) ≤ 0 by omega) ?_
            exact J141 _ _ _ _ ⟨by rw [eE]; first | (simp [bI, c96]; done) | (simp [bI, c96, e114]; done) | (simp [bI, c96, e114, d133]; done), hM⟩ hT
          · skip
            have e114 : ¬ t1 + 15 ≤ ct x 5 + k + 1 := fun h => c114 ((nI_leI (by omega) (by omega)).mpr h)
            refine lv_aload X.1 X.2.1 dL_acts_117 (lv_at hl 9 rfl) ?_
            refine lv_aload_n X.1 X.2.1 dL_acts_119 rfl (lv_at hl 10 rfl) ?_
            refine lv_aload X.1 X.2.1 dL_acts_120 (lv_at hl 6 rfl) ?_
            refine lv_iconst X.1 X.2.1 (v := 5) dL_acts_122 (by decide) ?_
            refine lv_iload X.1 X.2.1 dL_acts_123 (lv_at hl 0 rfl) ?_
            refine lv_imul X.1 X.2.1 dL_acts_125 ?_
            refine mm_top (w := nI (5 * j)) (pk_mul 5 j) ?_
            refine ml_ald X hT hM (k := 6) (j := 5 * j) (by decide) (show 5 * j < 60 by omega) dL_acts_126 ?_
            refine mm_top (w := nI (8 * u + v)) (q1) ?_
            refine lv_aload_n X.1 X.2.1 dL_acts_127 rfl (lv_at hl 10 rfl) ?_
            refine lv_iconst X.1 X.2.1 (v := 2) dL_acts_128 (by decide) ?_
            refine ml_ald X hT hM (k := 2) (j := 2) (by decide) (by decide) dL_acts_129 ?_
            refine mm_top (w := nI (ct x 5 + k + 1)) (eT) ?_
            refine mr_g X hT (fun hT' => mr_runS X hT' cb_RL_32 kw408 kw409 (As := [.ref (ad 3), .ref (ad 2), .int (nI (8 * u + v)), .int (nI (ct x 5 + k + 1))]) (k_holdsAt hfl hM hR2 (by rw [hJ.2.2.1 10 (by decide)]; exact i10) hVj (u := u) (v := v) (t := nI (ct x 5 + k + 1)) (by omega) (by omega)) rfl rfl hl.1 ⟨Nat.le_of_ble_eq_true rfl, Nat.le_of_ble_eq_true rfl⟩ (Nat.le_of_ble_eq_true rfl) dL_acts_130 ⟨Nat.le_of_ble_eq_true rfl, Nat.le_of_ble_eq_true rfl⟩) (fun v M1 H locs hp hT => ?_)
            obtain ⟨r, rfl, rfl, hM⟩ := hp
            refine W.eq (g2 := F0 zm 133 ls (.int (bI (q_hold yj (nI u) (nI v) (nI (ct x 5 + k + 1)) (ct yj 10))) :: _)) rfl ?_
            refine lv_if_ne X.1 X.2.1 (tgt := 140) dL_acts_133 (by decide) (fun c133 => ?_) (fun c133 => ?_)
            · skip
              have d133 : (q_hold yj (nI u) (nI v) (nI (ct x 5 + k + 1)) (ct yj 10)) = true := bI_n.mp c133
              refine lv_iconst X.1 X.2.1 (v := 0) dL_acts_140 (by decide) ?_
              refine W.widen (k := 0) (n := 0) (show ((0 + 0) : Nat) ≤ 0 by omega) (show ((0 + 0) : Nat) ≤ 0 by omega) ?_
              exact J141 _ _ _ _ ⟨by rw [eE]; first | (simp [bI, c96]; done) | (simp [bI, c96, e114]; done) | (simp [bI, c96, e114, d133]; done), hM⟩ hT
            · skip
              have d133 : (q_hold yj (nI u) (nI v) (nI (ct x 5 + k + 1)) (ct yj 10)) = false := bI_0.mp c133
              refine lv_iconst X.1 X.2.1 (v := 1) dL_acts_136 (by decide) ?_
              refine lv_goto X.1 X.2.1 (tgt := 141) dL_acts_137 (by decide) ?_
              refine W.widen (k := 0) (n := 0) (show ((0 + 0) : Nat) ≤ 0 by omega) (show ((0 + 0) : Nat) ≤ 0 by omega) ?_
              exact J141 _ _ _ _ ⟨by rw [eE]; first | (simp [bI, c96]; done) | (simp [bI, c96, e114]; done) | (simp [bI, c96, e114, d133]; done), hM⟩ hT
set_option maxHeartbeats 4000000 in
set_option maxRecDepth 100000 in
theorem k_acts {l : Launch} (hfl : l.stackTraces = false) {G : mw_G} {o : Nat} {ad : Nat → Nat} {x : s_T} {z : Nat → Nat → Int32} {M : mw_M} {N T wy zz : Nat} (hM : LW G o ad x z M) (hS : LSt N T x z) (hN : N ≤ 499) (hw : wy < 28) (hz : zz < 1000000) (hTb : T ≤ 98000) : mw_MetK ex_N l G yL_acts (.code yL_acts cL_acts 15 (some .boolean)) rm_L_acts [.ref o, .ref (ad 0), .ref (ad 1), .ref (ad 2), .ref (ad 3), .ref (ad 4), .ref (ad 5), .ref (ad 6), .int (nI wy), .int (nI zz)] M (mw_pi (fun r M1 => r = 1 ∧ ∃ (x1 : s_T) (z1 : Nat → Nat → Int32) (T1 : Nat), LSt (N + 1) T1 x1 z1 ∧ (T1 ≤ T + 40 ∨ T1 ≤ 92000) ∧ LW G o ad x1 z1 M1)) := by
  refine mw_ofK hfl (by decide) (Nat.le_of_ble_eq_true rfl) ?_
  intro zp ze zs_ zm zb zh zc ls X hin hret hex hT hl
  have hl : lv_has ls 15 [(0, .ref o), (1, .ref (ad 0)), (2, .ref (ad 1)), (3, .ref (ad 2)), (4, .ref (ad 3)), (5, .ref (ad 4)), (6, .ref (ad 5)), (7, .ref (ad 6)), (8, .int (nI wy)), (9, .int (nI zz))] := hl
  obtain ⟨hR, hI, hq, hT5, hH⟩ := id hS
  have hV := q_inv_mono hq.1 (show N ≤ 512 by omega)
  have hX := q_inv_mono hq.1 (show N ≤ 511 by omega)
  obtain ⟨i2, i4, i10, i17, i22, i29, ilb, ils, ie, is_⟩ := id hI
  obtain ⟨v2, v4, v5⟩ := hV.le
  obtain ⟨sq, hsq, esq⟩ := id ils
  have h25 : ∀ j, j < ct x 29 → cg x 25 j = 0 ∨ cg x 25 j = 1 := fun j hj => (is_ j hj).2.1
  have hm2 := l_m2_le wy
  have hmi := l_mi_le wy zz (ct x 5)
  refine lv_iload X.1 X.2.1 dL_acts_0 (lv_at hl 8 rfl) ?_
  refine lv_iconst X.1 X.2.1 (v := 4) dL_acts_2 (by decide) ?_
  refine lv_icmp_ge X.1 X.2.1 (tgt := 435) dL_acts_3 (by decide) (fun c3 => ?_) (fun c3 => ?_)
  · skip
    refine lv_iload X.1 X.2.1 dL_acts_435 (lv_at hl 8 rfl) ?_
    refine lv_bipush X.1 X.2.1 (v := 6) dL_acts_437 (by decide) ?_
    refine lv_icmp_ge X.1 X.2.1 (tgt := 620) dL_acts_439 (by decide) (fun c439 => ?_) (fun c439 => ?_)
    · skip
      refine lv_iload X.1 X.2.1 dL_acts_620 (lv_at hl 8 rfl) ?_
      refine lv_bipush X.1 X.2.1 (v := 6) dL_acts_622 (by decide) ?_
      refine lv_icmp_ne X.1 X.2.1 (tgt := 704) dL_acts_624 (by decide) (fun c624 => ?_) (fun c624 => ?_)
      · skip
        refine lv_iload X.1 X.2.1 dL_acts_704 (lv_at hl 8 rfl) ?_
        refine lv_bipush X.1 X.2.1 (v := 15) dL_acts_706 (by decide) ?_
        refine lv_icmp_ge X.1 X.2.1 (tgt := 733) dL_acts_708 (by decide) (fun c708 => ?_) (fun c708 => ?_)
        · skip
          refine lv_aload_n X.1 X.2.1 dL_acts_733 rfl (lv_at hl 0 rfl) ?_
          refine lv_aload_n X.1 X.2.1 dL_acts_734 rfl (lv_at hl 1 rfl) ?_
          refine lv_aload_n X.1 X.2.1 dL_acts_735 rfl (lv_at hl 2 rfl) ?_
          refine lv_aload_n X.1 X.2.1 dL_acts_736 rfl (lv_at hl 3 rfl) ?_
          refine lv_aload X.1 X.2.1 dL_acts_737 (lv_at hl 4 rfl) ?_
          refine lv_aload X.1 X.2.1 dL_acts_739 (lv_at hl 7 rfl) ?_
          refine mw_join hT 764 (0) (0) (fun r M1 => r = nI (l_wt wy zz) ∧ LW G o ad x z M1) (fun r M1 H locs hp hT => ?_) (fun J764 => ?_)
          · obtain ⟨rfl, hM⟩ := hp
            refine lv_iload X.1 X.2.1 dL_acts_764 (lv_at hl 9 rfl) ?_
            refine mr_g X hT (fun hT' => mr_runSK X hT' ex_N_ok (ex_N_at hex) cb_RL_160 kw625 kw626 (As := [.ref o, .ref (ad 0), .ref (ad 1), .ref (ad 2), .ref (ad 3), .ref (ad 6), .int (nI (l_wt wy zz)), .int (nI zz)]) (k_isTyped hfl hM hS (show N ≤ 500 by omega) (wy := l_wt wy zz) (l_wt_le wy zz) hz) rfl rfl hl.1 ⟨Nat.le_of_ble_eq_true rfl, Nat.le_of_ble_eq_true rfl⟩ (Nat.le_of_ble_eq_true rfl) dL_acts_766 ⟨Nat.le_of_ble_eq_true rfl, Nat.le_of_ble_eq_true rfl⟩) (fun v M1 H locs hp hT => ?_)
            obtain ⟨r, rfl, rfl, x1, z1, hS1, hM⟩ := hp
            refine W.eq (g2 := F0 zm 769 ls (.int 1 :: _)) rfl ?_
            exact mr_zret X hT hret (by first | rfl | decide | exact bI_nar _) (⟨_, rfl, rfl, _, _, T, hS1, Or.inl (Nat.le_add_right _ _), hM⟩) (Nat.le_of_ble_eq_true rfl) (Nat.le_of_ble_eq_true rfl) dL_acts_769
          · skip
            refine lv_iload X.1 X.2.1 dL_acts_741 (lv_at hl 8 rfl) ?_
            refine lv_iconst X.1 X.2.1 (v := 4) dL_acts_743 (by decide) ?_
            refine lv_irem X.1 X.2.1 dL_acts_744 (by decide) ?_
            refine mm_top (w := nI (wy % 4)) (pk_rem (a := wy) (d := 4) (by omega) (by omega) (by omega)) ?_
            refine lv_iconst X.1 X.2.1 (v := 2) dL_acts_745 (by decide) ?_
            refine lv_icmp_ne X.1 X.2.1 (tgt := 760) dL_acts_746 (by decide) (fun c746 => ?_) (fun c746 => ?_)
            · skip
              have e746 : ¬ wy % 4 = 2 := fun h => c746 (by rw [h]; rfl)
              refine lv_iload X.1 X.2.1 dL_acts_760 (lv_at hl 8 rfl) ?_
              refine lv_iconst X.1 X.2.1 (v := 4) dL_acts_762 (by decide) ?_
              refine lv_irem X.1 X.2.1 dL_acts_763 (by decide) ?_
              refine mm_top (w := nI (wy % 4)) (pk_rem (a := wy) (d := 4) (by omega) (by omega) (by omega)) ?_
              refine W.widen (k := 0) (n := 0) (show ((0) : Nat) ≤ 0 by omega) (show ((0) : Nat) ≤ 0 by omega) ?_
              exact J764 _ _ _ _ ⟨by first | exact congrArg nI (show 3 = l_wt wy zz by rw [l_wt, if_pos ⟨e746, e753⟩]) | exact congrArg nI (show wy % 4 = l_wt wy zz by rw [l_wt, if_neg (fun h => by first | exact e746 h.1 | exact e753 h.2)]), hM⟩ hT
            · skip
              have e746 : wy % 4 = 2 := (nI_eq (a := wy % 4) (b := 2) (by omega) (by decide)).mp c746
              refine lv_iload X.1 X.2.1 dL_acts_749 (lv_at hl 9 rfl) ?_
              refine lv_iconst X.1 X.2.1 (v := 3) dL_acts_751 (by decide) ?_
              refine lv_irem X.1 X.2.1 dL_acts_752 (by decide) ?_
              refine mm_top (w := nI (zz % 3)) (pk_rem (a := zz) (d := 3) (by omega) (by omega) (by omega)) ?_
              refine lv_if_le X.1 X.2.1 (tgt := 760) dL_acts_753 (by decide) (fun c753 => ?_) (fun c753 => ?_)
              · skip
                have e753 : ¬ 0 < zz % 3 := fun h => nI_nle h (by omega) c753
                refine lv_iload X.1 X.2.1 dL_acts_760 (lv_at hl 8 rfl) ?_
                refine lv_iconst X.1 X.2.1 (v := 4) dL_acts_762 (by decide) ?_
                refine lv_irem X.1 X.2.1 dL_acts_763 (by decide) ?_
                refine mm_top (w := nI (wy % 4)) (pk_rem (a := wy) (d := 4) (by omega) (by omega) (by omega)) ?_
                refine W.widen (k := 0) (n := 0) (show ((0) : Nat) ≤ 0 by omega) (show ((0) : Nat) ≤ 0 by omega) ?_
                exact J764 _ _ _ _ ⟨by first | exact congrArg nI (show 3 = l_wt wy zz by rw [l_wt, if_pos ⟨e746, e753⟩]) | exact congrArg nI (show wy % 4 = l_wt wy zz by rw [l_wt, if_neg (fun h => by first | exact e746 h.1 | exact e753 h.2)]), hM⟩ hT
              · skip
                have e753 : 0 < zz % 3 := Nat.pos_of_ne_zero (fun h => c753 (by rw [h]; decide))
                refine lv_iconst X.1 X.2.1 (v := 3) dL_acts_756 (by decide) ?_
                refine lv_goto X.1 X.2.1 (tgt := 764) dL_acts_757 (by decide) ?_
                refine W.widen (k := 0) (n := 0) (show ((0) : Nat) ≤ 0 by omega) (show ((0) : Nat) ≤ 0 by omega) ?_
                exact J764 _ _ _ _ ⟨by first | exact congrArg nI (show 3 = l_wt wy zz by rw [l_wt, if_pos ⟨e746, e753⟩]) | exact congrArg nI (show wy % 4 = l_wt wy zz by rw [l_wt, if_neg (fun h => by first | exact e746 h.1 | exact e753 h.2)]), hM⟩ hT
        · skip
          refine lv_aload_n X.1 X.2.1 dL_acts_711 rfl (lv_at hl 0 rfl) ?_
          refine lv_aload_n X.1 X.2.1 dL_acts_712 rfl (lv_at hl 1 rfl) ?_
          refine lv_aload_n X.1 X.2.1 dL_acts_713 rfl (lv_at hl 2 rfl) ?_
          refine lv_aload_n X.1 X.2.1 dL_acts_714 rfl (lv_at hl 3 rfl) ?_
          refine lv_aload X.1 X.2.1 dL_acts_715 (lv_at hl 4 rfl) ?_
          refine lv_aload X.1 X.2.1 dL_acts_717 (lv_at hl 5 rfl) ?_
          refine lv_aload X.1 X.2.1 dL_acts_719 (lv_at hl 6 rfl) ?_
          refine lv_iload X.1 X.2.1 dL_acts_721 (lv_at hl 8 rfl) ?_
          refine lv_iconst X.1 X.2.1 (v := 5) dL_acts_723 (by decide) ?_
          refine lv_irem X.1 X.2.1 dL_acts_724 (by decide) ?_
          refine mm_top (w := nI (wy % 5)) (pk_rem (a := wy) (d := 5) (by omega) (by omega) (by omega)) ?_
          refine lv_iload X.1 X.2.1 dL_acts_725 (lv_at hl 9 rfl) ?_
          refine mr_g X hT (fun hT' => mr_runSK X hT' ex_N_ok (ex_N_at hex) cb_RL_156 kw461 kw462 (As := [.ref o, .ref (ad 0), .ref (ad 1), .ref (ad 2), .ref (ad 3), .ref (ad 4), .ref (ad 5), .int (nI (wy % 5)), .int (nI zz)]) (k_isAsked hfl hM hS (show N ≤ 500 by omega) (wy := wy % 5) (show wy % 5 < 5 by omega) hz) rfl rfl hl.1 ⟨Nat.le_of_ble_eq_true rfl, Nat.le_of_ble_eq_true rfl⟩ (Nat.le_of_ble_eq_true rfl) dL_acts_727 ⟨Nat.le_of_ble_eq_true rfl, Nat.le_of_ble_eq_true rfl⟩) (fun v M1 H locs hp hT => ?_)
          obtain ⟨r, rfl, rfl, x1, z1, hS1, hM⟩ := hp
          refine W.eq (g2 := F0 zm 730 ls (.int 1 :: _)) rfl ?_
          refine lv_goto X.1 X.2.1 (tgt := 769) dL_acts_730 (by decide) ?_
          exact mr_zret X hT hret (by first | rfl | decide | exact bI_nar _) (⟨_, rfl, rfl, _, _, T, hS1, Or.inl (Nat.le_add_right _ _), hM⟩) (Nat.le_of_ble_eq_true rfl) (Nat.le_of_ble_eq_true rfl) dL_acts_769
      · skip
        exact k_acts_take hfl X hret hex hT hM hl hS hN hz
    · skip
      exact k_acts_lab hfl X hret hex hT hM hl hS hN hz
  · skip
    refine mw_join hT 52 (0) (0) (fun r M1 => r = nI (l_mi wy zz (ct x 5)) ∧ LW G o ad x z M1) (fun r M1 H locs hp hT => ?_) (fun J52 => ?_)
    · obtain ⟨rfl, hM⟩ := hp
      obtain ⟨mi, emi⟩ : ∃ mi, l_mi wy zz (ct x 5) = mi := ⟨_, rfl⟩
      rw [emi] at hmi
      rw [emi]
      refine lv_istore X.1 X.2.1 dL_acts_52 hl (by decide) rfl (fun ls hl => ?_)
      exact k_acts_pass hfl X hret hex hT hM hl hS hN hTb hmi
    · skip
      refine lv_iload X.1 X.2.1 dL_acts_6 (lv_at hl 8 rfl) ?_
      refine lv_if_ne X.1 X.2.1 (tgt := 32) dL_acts_8 (by decide) (fun c8 => ?_) (fun c8 => ?_)
      · skip
        have e8 : ¬ wy = 0 := fun h => c8 (by rw [h]; rfl)
        refine lv_iconst X.1 X.2.1 (v := 1) dL_acts_32 (by decide) ?_
        refine lv_iload X.1 X.2.1 dL_acts_33 (lv_at hl 9 rfl) ?_
        refine lv_iconst X.1 X.2.1 (v := 5) dL_acts_35 (by decide) ?_
        refine lv_idiv X.1 X.2.1 dL_acts_36 (by decide) ?_
        refine mm_top (w := nI (zz / 5)) (pk_div (a := zz) (d := 5) (by omega) (by omega) (by omega)) ?_
        refine mw_join hT 50 (0) (0) (fun r M1 => r = nI (l_m2 wy) ∧ LW G o ad x z M1) (fun r M1 H locs hp hT => ?_) (fun J50 => ?_)
        · obtain ⟨rfl, hM⟩ := hp
          refine lv_irem X.1 X.2.1 dL_acts_50 (nI_ne0 (n := l_m2 wy) (by omega) (by omega)) ?_
          refine mm_top (w := nI ((zz / 5) % (l_m2 wy))) (pk_rem (a := zz / 5) (d := l_m2 wy) (by omega) (by omega) (by omega)) ?_
          refine lv_iadd X.1 X.2.1 dL_acts_51 ?_
          refine mm_top (w := nI (1 + (zz / 5) % (l_m2 wy))) (nI_add 1 ((zz / 5) % (l_m2 wy))) ?_
          refine W.widen (k := 0) (n := 0) (show ((0) : Nat) ≤ 0 by omega) (show ((0) : Nat) ≤ 0 by omega) ?_
          exact J52 _ _ _ _ ⟨by first | exact congrArg nI (show 1440 = l_mi wy zz (ct x 5) by rw [l_mi, if_pos ⟨e8, e15, e23⟩]) | exact congrArg nI (show 1 + zz / 5 % l_m2 wy = l_mi wy zz (ct x 5) by rw [l_mi, if_neg (fun h => by first | exact e8 h.1 | exact e15 h.2.1 | exact e23 h.2.2)]), hM⟩ hT
        · skip
          refine lv_iload X.1 X.2.1 dL_acts_37 (lv_at hl 8 rfl) ?_
          refine lv_iconst X.1 X.2.1 (v := 1) dL_acts_39 (by decide) ?_
          refine lv_icmp_ne X.1 X.2.1 (tgt := 48) dL_acts_40 (by decide) (fun c40 => ?_) (fun c40 => ?_)
          · skip
            have e40 : ¬ wy = 1 := fun h => c40 (by rw [h]; rfl)
            refine lv_bipush X.1 X.2.1 (v := 12) dL_acts_48 (by decide) ?_
            refine W.widen (k := 0) (n := 0) (show ((0) : Nat) ≤ 0 by omega) (show ((0) : Nat) ≤ 0 by omega) ?_
            exact J50 _ _ _ _ ⟨by first | exact congrArg nI (show 40 = l_m2 wy by rw [l_m2, if_pos e40]) | exact congrArg nI (show 12 = l_m2 wy by rw [l_m2, if_neg e40]), hM⟩ hT
          · skip
            have e40 : wy = 1 := (nI_eq (a := wy) (b := 1) (by omega) (by decide)).mp c40
            refine lv_bipush X.1 X.2.1 (v := 40) dL_acts_43 (by decide) ?_
            refine lv_goto X.1 X.2.1 (tgt := 50) dL_acts_45 (by decide) ?_
            refine W.widen (k := 0) (n := 0) (show ((0) : Nat) ≤ 0 by omega) (show ((0) : Nat) ≤ 0 by omega) ?_
            exact J50 _ _ _ _ ⟨by first | exact congrArg nI (show 40 = l_m2 wy by rw [l_m2, if_pos e40]) | exact congrArg nI (show 12 = l_m2 wy by rw [l_m2, if_neg e40]), hM⟩ hT
      · skip
        have e8 : wy = 0 := (nI_eq (a := wy) (b := 0) (by omega) (by omega)).mp c8
        refine lv_iload X.1 X.2.1 dL_acts_11 (lv_at hl 9 rfl) ?_
        refine lv_iconst X.1 X.2.1 (v := 5) dL_acts_13 (by decide) ?_
        refine lv_irem X.1 X.2.1 dL_acts_14 (by decide) ?_
        refine mm_top (w := nI (zz % 5)) (pk_rem (a := zz) (d := 5) (by omega) (by omega) (by omega)) ?_
        refine lv_if_ne X.1 X.2.1 (tgt := 32) dL_acts_15 (by decide) (fun c15 => ?_) (fun c15 => ?_)
        · skip
          have e15 : ¬ zz % 5 = 0 := fun h => c15 (by rw [h]; rfl)
          refine lv_iconst X.1 X.2.1 (v := 1) dL_acts_32 (by decide) ?_
          refine lv_iload X.1 X.2.1 dL_acts_33 (lv_at hl 9 rfl) ?_
          refine lv_iconst X.1 X.2.1 (v := 5) dL_acts_35 (by decide) ?_
          refine lv_idiv X.1 X.2.1 dL_acts_36 (by decide) ?_
          refine mm_top (w := nI (zz / 5)) (pk_div (a := zz) (d := 5) (by omega) (by omega) (by omega)) ?_
          refine mw_join hT 50 (0) (0) (fun r M1 => r = nI (l_m2 wy) ∧ LW G o ad x z M1) (fun r M1 H locs hp hT => ?_) (fun J50 => ?_)
          · obtain ⟨rfl, hM⟩ := hp
            refine lv_irem X.1 X.2.1 dL_acts_50 (nI_ne0 (n := l_m2 wy) (by omega) (by omega)) ?_
            refine mm_top (w := nI ((zz / 5) % (l_m2 wy))) (pk_rem (a := zz / 5) (d := l_m2 wy) (by omega) (by omega) (by omega)) ?_
            refine lv_iadd X.1 X.2.1 dL_acts_51 ?_
            refine mm_top (w := nI (1 + (zz / 5) % (l_m2 wy))) (nI_add 1 ((zz / 5) % (l_m2 wy))) ?_
            refine W.widen (k := 0) (n := 0) (show ((0) : Nat) ≤ 0 by omega) (show ((0) : Nat) ≤ 0 by omega) ?_
            exact J52 _ _ _ _ ⟨by first | exact congrArg nI (show 1440 = l_mi wy zz (ct x 5) by rw [l_mi, if_pos ⟨e8, e15, e23⟩]) | exact congrArg nI (show 1 + zz / 5 % l_m2 wy = l_mi wy zz (ct x 5) by rw [l_mi, if_neg (fun h => by first | exact e8 h.1 | exact e15 h.2.1 | exact e23 h.2.2)]), hM⟩ hT
          · skip
            refine lv_iload X.1 X.2.1 dL_acts_37 (lv_at hl 8 rfl) ?_
            refine lv_iconst X.1 X.2.1 (v := 1) dL_acts_39 (by decide) ?_
            refine lv_icmp_ne X.1 X.2.1 (tgt := 48) dL_acts_40 (by decide) (fun c40 => ?_) (fun c40 => ?_)
            · skip
              have e40 : ¬ wy = 1 := fun h => c40 (by rw [h]; rfl)
              refine lv_bipush X.1 X.2.1 (v := 12) dL_acts_48 (by decide) ?_
              refine W.widen (k := 0) (n := 0) (show ((0) : Nat) ≤ 0 by omega) (show ((0) : Nat) ≤ 0 by omega) ?_
              exact J50 _ _ _ _ ⟨by first | exact congrArg nI (show 40 = l_m2 wy by rw [l_m2, if_pos e40]) | exact congrArg nI (show 12 = l_m2 wy by rw [l_m2, if_neg e40]), hM⟩ hT
            · skip
              have e40 : wy = 1 := (nI_eq (a := wy) (b := 1) (by omega) (by decide)).mp c40
              refine lv_bipush X.1 X.2.1 (v := 40) dL_acts_43 (by decide) ?_
              refine lv_goto X.1 X.2.1 (tgt := 50) dL_acts_45 (by decide) ?_
              refine W.widen (k := 0) (n := 0) (show ((0) : Nat) ≤ 0 by omega) (show ((0) : Nat) ≤ 0 by omega) ?_
              exact J50 _ _ _ _ ⟨by first | exact congrArg nI (show 40 = l_m2 wy by rw [l_m2, if_pos e40]) | exact congrArg nI (show 12 = l_m2 wy by rw [l_m2, if_neg e40]), hM⟩ hT
        · skip
          have e15 : zz % 5 = 0 := (nI_eq (a := zz % 5) (b := 0) (by omega) (by omega)).mp c15
          refine lv_aload_n X.1 X.2.1 dL_acts_18 rfl (lv_at hl 3 rfl) ?_
          refine lv_iconst X.1 X.2.1 (v := 2) dL_acts_19 (by decide) ?_
          refine ml_ald X hT hM (k := 2) (j := 2) (by decide) (by decide) dL_acts_20 ?_
          refine mm_top (w := nI (ct x 5)) (hR.2.2.1.2.2.1) ?_
          refine lv_ldc X.1 X.2.1 (v := 90000) X.2.2.2.1 (mw_use X.2.2.2.2.1.1 kw406 rfl) dL_acts_21 ?_
          refine lv_icmp_ge X.1 X.2.1 (tgt := 32) dL_acts_23 (by decide) (fun c23 => ?_) (fun c23 => ?_)
          · skip
            have e23 : ¬ ct x 5 < 90000 := fun h => absurd c23 (nI_ge (b := 90000) h (by decide))
            refine lv_iconst X.1 X.2.1 (v := 1) dL_acts_32 (by decide) ?_
            refine lv_iload X.1 X.2.1 dL_acts_33 (lv_at hl 9 rfl) ?_
            refine lv_iconst X.1 X.2.1 (v := 5) dL_acts_35 (by decide) ?_
            refine lv_idiv X.1 X.2.1 dL_acts_36 (by decide) ?_
            refine mm_top (w := nI (zz / 5)) (pk_div (a := zz) (d := 5) (by omega) (by omega) (by omega)) ?_
            refine mw_join hT 50 (0) (0) (fun r M1 => r = nI (l_m2 wy) ∧ LW G o ad x z M1) (fun r M1 H locs hp hT => ?_) (fun J50 => ?_)
            · obtain ⟨rfl, hM⟩ := hp
              refine lv_irem X.1 X.2.1 dL_acts_50 (nI_ne0 (n := l_m2 wy) (by omega) (by omega)) ?_
              refine mm_top (w := nI ((zz / 5) % (l_m2 wy))) (pk_rem (a := zz / 5) (d := l_m2 wy) (by omega) (by omega) (by omega)) ?_
              refine lv_iadd X.1 X.2.1 dL_acts_51 ?_
              refine mm_top (w := nI (1 + (zz / 5) % (l_m2 wy))) (nI_add 1 ((zz / 5) % (l_m2 wy))) ?_
              refine W.widen (k := 0) (n := 0) (show ((0) : Nat) ≤ 0 by omega) (show ((0) : Nat) ≤ 0 by omega) ?_
              exact J52 _ _ _ _ ⟨by first | exact congrArg nI (show 1440 = l_mi wy zz (ct x 5) by rw [l_mi, if_pos ⟨e8, e15, e23⟩]) | exact congrArg nI (show 1 + zz / 5 % l_m2 wy = l_mi wy zz (ct x 5) by rw [l_mi, if_neg (fun h => by first | exact e8 h.1 | exact e15 h.2.1 | exact e23 h.2.2)]), hM⟩ hT
            · skip
              refine lv_iload X.1 X.2.1 dL_acts_37 (lv_at hl 8 rfl) ?_
              refine lv_iconst X.1 X.2.1 (v := 1) dL_acts_39 (by decide) ?_
              refine lv_icmp_ne X.1 X.2.1 (tgt := 48) dL_acts_40 (by decide) (fun c40 => ?_) (fun c40 => ?_)
              · skip
                have e40 : ¬ wy = 1 := fun h => c40 (by rw [h]; rfl)
                refine lv_bipush X.1 X.2.1 (v := 12) dL_acts_48 (by decide) ?_
                refine W.widen (k := 0) (n := 0) (show ((0) : Nat) ≤ 0 by omega) (show ((0) : Nat) ≤ 0 by omega) ?_
                exact J50 _ _ _ _ ⟨by first | exact congrArg nI (show 40 = l_m2 wy by rw [l_m2, if_pos e40]) | exact congrArg nI (show 12 = l_m2 wy by rw [l_m2, if_neg e40]), hM⟩ hT
              · skip
                have e40 : wy = 1 := (nI_eq (a := wy) (b := 1) (by omega) (by decide)).mp c40
                refine lv_bipush X.1 X.2.1 (v := 40) dL_acts_43 (by decide) ?_
                refine lv_goto X.1 X.2.1 (tgt := 50) dL_acts_45 (by decide) ?_
                refine W.widen (k := 0) (n := 0) (show ((0) : Nat) ≤ 0 by omega) (show ((0) : Nat) ≤ 0 by omega) ?_
                exact J50 _ _ _ _ ⟨by first | exact congrArg nI (show 40 = l_m2 wy by rw [l_m2, if_pos e40]) | exact congrArg nI (show 12 = l_m2 wy by rw [l_m2, if_neg e40]), hM⟩ hT
          · skip
            have e23 : ct x 5 < 90000 := Nat.lt_of_not_le (fun h => c23 ((nI_leI (a := 90000) (by decide) (by omega)).mpr h))
            refine lv_sipush X.1 X.2.1 (v := 1440) dL_acts_26 (by decide) ?_
            refine lv_goto X.1 X.2.1 (tgt := 52) dL_acts_29 (by decide) ?_
            refine W.widen (k := 0) (n := 0) (show ((0) : Nat) ≤ 0 by omega) (show ((0) : Nat) ≤ 0 by omega) ?_
            exact J52 _ _ _ _ ⟨by first | exact congrArg nI (show 1440 = l_mi wy zz (ct x 5) by rw [l_mi, if_pos ⟨e8, e15, e23⟩]) | exact congrArg nI (show 1 + zz / 5 % l_m2 wy = l_mi wy zz (ct x 5) by rw [l_mi, if_neg (fun h => by first | exact e8 h.1 | exact e15 h.2.1 | exact e23 h.2.2)]), hM⟩ hT
