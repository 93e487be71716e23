abbrev rm_L_isTyped : Room := { frames := 9, cells := 5, slots := 1324, locals := 274 }
set_option maxHeartbeats 4000000 in
set_option maxRecDepth 100000 in
theorem k_isTyped_30 {l : Launch} (hfl : l.stackTraces = false) {G : mw_G} {o : Nat} {ad : Nat → Nat} {x : s_T} {z : Nat → Nat → Int32} {M : mw_M} {N T wy zz : Nat} {zp : Program} {ze : Env} {zs_ : State} {zm : MethodId} {zb : List Frame} {zh : Method} {zc : Code} {ls : Array Slot} {H : Heap} {locs : List Loc} {M1 : mw_M} {p sk : Nat} (X : mw_B zp l zs_ zm zh zc cL_isTyped 16 yL_isTyped.cls G (mw_A M zs_.heap.size)) (hret : zh.sig.returnType = (some .boolean)) (hex : ex_N zs_) (hT : mw_T G (mw_A M zs_.heap.size) zs_ M1 H locs) (hM : LW G o ad x z M1) (hl : lv_has ls 16 [(13, .int (bI (decide (cg x 25 sk ≠ 0) && decide (cg x 27 sk = -1)))), (12, .int (nI 0)), (11, .int (bI (decide (cg x 25 sk ≠ 0)))), (10, .int (nI (5 * sk))), (9, .int (nI sk)), (8, .int (nI p)), (0, .ref o), (1, .ref (ad 0)), (2, .ref (ad 1)), (3, .ref (ad 2)), (4, .ref (ad 3)), (5, .ref (ad 6)), (6, .int (nI wy)), (7, .int (nI zz))]) (hS : LSt N T x z) (hN : N ≤ 500) (hz : zz < 1000000) (hp5 : p < 5) (hsk : sk < ct x 29) (d588 : (decide (cg x 25 sk ≠ 0) && decide (cg x 27 sk = -1)) = true) : W zp l ze rm_L_isTyped zs_ zm ([.ref o, .ref (ad 0), .ref (ad 1), .ref (ad 2), .ref (ad 3), .ref (ad 6), .int (nI wy), .int (nI zz)] : List Value).toArray zb zh zc H locs (0) (0) (mw_E zb G M rm_L_isTyped (mw_pi (fun r M1 => r = 1 ∧ ∃ (x1 : s_T) (z1 : Nat → Nat → Int32), LSt (N + 1) T x1 z1 ∧ LW G o ad x1 z1 M1)) ([.ref o, .ref (ad 0), .ref (ad 1), .ref (ad 2), .ref (ad 3), .ref (ad 6), .int (nI wy), .int (nI zz)] : List Value).toArray zs_) (F0 zm 588 ls []) := by
  obtain ⟨hR, hI, hq, hT5, hH⟩ := id hS
  have hV := q_inv_mono hq.1 (show N ≤ 512 by omega)
  have hX := q_inv_mono hq.1 (show N ≤ 511 by omega)
  obtain ⟨i2, i4, i10, i17, i22, i29, ilb, ils, ie, is_⟩ := id hI
  obtain ⟨v2, v4, v5⟩ := hV.le
  obtain ⟨sq, hsq, esq⟩ := id ils
  obtain ⟨⟨u, hu, eu⟩, ⟨v, hv, ev⟩⟩ := hX.se hsk
  obtain ⟨o26, o25, o27⟩ := is_ sk hsk
  obtain ⟨q1, q2, q3, q4, q5⟩ := hR.2.2.2.2.2.2 sk hsk
  rw [eu, ev, l_pr] at q1
  have hu5 : u < 5 := by omega
  have hv3 : v < 3 := by omega
  have hkd : 0 ≤ 2 := by decide
  refine lv_aload_n X.1 X.2.1 dL_isTyped_588 rfl (lv_at hl 6 rfl) ?_
  refine lv_iload X.1 X.2.1 dL_isTyped_589 (lv_at hl 4 rfl) ?_
  refine lv_iload X.1 X.2.1 dL_isTyped_591 (lv_at hl 1 rfl) ?_
  have hk3 := l_c3 (l_typc hI hsk hkd)
  have eX : f_type_s x (nI sk) (nI 0) = q_write (cs (cs x 26 sk (q_now x)) 28 sk (cg x 28 sk + 1)) 7 (nI u) (nI v) := by unfold f_type_s f_type_y; rw [if_pos (by decide), pn_nI (show sk < 2 ^ 31 by omega), eu, ev, q_write_c2 _ (by decide) (by decide), q_write_c2 _ (by decide) (by decide), q_write_c2 _ (by decide) (by decide)]
  refine mr_gX X hT (fun hT' => mr_runSN X hex hT' cb_RL_113 kw694 kw695 (As := [.ref o, .int (nI sk), .int (nI 0)]) (k_typed hfl hM hX hk3.1 hk3.2.1) rfl rfl hl.1 ⟨Nat.le_of_ble_eq_true rfl, Nat.le_of_ble_eq_true rfl⟩ (Nat.le_of_ble_eq_true rfl) dL_isTyped_593 ⟨Nat.le_of_ble_eq_true rfl, Nat.le_of_ble_eq_true rfl⟩) (fun E ce9 q9 H locs hp hT h1 h2 h3 => absurd hp id) (fun v M1 H locs hp hT => ?_)
  obtain ⟨r, rfl, hr, hM⟩ := hp
  have hr : r = 1 := by rw [hr, if_pos (hk3.2.2.1 d588)]; decide
  rw [if_pos (hk3.2.2.1 d588), eX] at hM
  subst hr
  refine W.eq (g2 := F0 zm 596 ls (.int 1 :: _)) rfl ?_
  have hq1 := st_type hq (show N ≤ 511 by omega) (hk3.2.2.1 d588)
  rw [eX] at hq1
  have hX1 := q_inv_mono hq1.1 (show N + 1 ≤ 511 by omega)
  have e25 : cg x 25 sk ≠ 0 := of_decide_eq_true (Bool.and_eq_true_iff.mp d588).1
  have e27 : cg x 27 sk = -1 := of_decide_eq_true (Bool.and_eq_true_iff.mp d588).2
  refine lv_istore X.1 X.2.1 dL_isTyped_596 hl (by decide) rfl (fun ls hl => ?_)
  refine lv_iload X.1 X.2.1 dL_isTyped_598 (lv_at hl 1 rfl) ?_
  refine lv_if_ne X.1 X.2.1 (tgt := 616) dL_isTyped_600 (by decide) (fun _ => ?_) (fun c600 => absurd c600 (by rw [d588]; decide))
  refine lv_aload X.1 X.2.1 dL_isTyped_616 (lv_at hl 12 rfl) ?_
  refine lv_iload X.1 X.2.1 dL_isTyped_618 (lv_at hl 4 rfl) ?_
  refine lv_iconst X.1 X.2.1 (v := 2) dL_isTyped_620 (by decide) ?_
  refine lv_iadd X.1 X.2.1 dL_isTyped_621 ?_
  refine mm_top (w := nI (5 * sk + 2)) (nI_add (5 * sk) 2) ?_
  refine lv_aload_n X.1 X.2.1 dL_isTyped_622 rfl (lv_at hl 10 rfl) ?_
  refine lv_iconst X.1 X.2.1 (v := 2) dL_isTyped_623 (by decide) ?_
  refine ml_ald X hT hM (k := 2) (j := 2) (by decide) (by decide) dL_isTyped_624 ?_
  refine mm_top (w := nI (ct x 5)) (hR.2.2.1.2.2.1) ?_
  refine ml_ast X hT hM (k := 6) (j := 5 * sk + 2) (by decide) (show 5 * sk + 2 < 60 by omega) dL_isTyped_625 (fun M1 H locs hM hT => ?_)
  refine lv_aload X.1 X.2.1 dL_isTyped_626 (lv_at hl 12 rfl) ?_
  refine lv_iload X.1 X.2.1 dL_isTyped_628 (lv_at hl 4 rfl) ?_
  refine lv_iconst X.1 X.2.1 (v := 4) dL_isTyped_630 (by decide) ?_
  refine lv_iadd X.1 X.2.1 dL_isTyped_631 ?_
  refine mm_top (w := nI (5 * sk + 4)) (nI_add (5 * sk) 4) ?_
  refine lv_dup2_11 X.1 X.2.1 dL_isTyped_632 rfl rfl ?_
  refine ml_ald X hT hM (k := 6) (j := 5 * sk + 4) (by decide) (show 5 * sk + 4 < 60 by omega) dL_isTyped_633 ?_
  refine mm_top (w := cg x 28 sk) (by rw [zs_get, if_pos rfl, if_neg (by omega)]; exact q5) ?_
  refine lv_iload X.1 X.2.1 dL_isTyped_634 (lv_at hl 2 rfl) ?_
  refine lv_if_ne X.1 X.2.1 (tgt := 643) dL_isTyped_636 (by decide) (fun c636 => absurd (by decide) c636) (fun _ => ?_)
  refine lv_iconst X.1 X.2.1 (v := 1) dL_isTyped_639 (by decide) ?_
  refine lv_goto X.1 X.2.1 (tgt := 644) dL_isTyped_640 (by decide) ?_
  refine lv_iadd X.1 X.2.1 dL_isTyped_644 ?_
  refine mm_top (w := cg x 28 sk + 1) (rfl) ?_
  refine ml_ast X hT hM (k := 6) (j := 5 * sk + 4) (by decide) (show 5 * sk + 4 < 60 by omega) dL_isTyped_645 (fun M1 H locs hM hT => ?_)
  refine lv_aload X.1 X.2.1 dL_isTyped_646 (lv_at hl 12 rfl) ?_
  refine lv_iload X.1 X.2.1 dL_isTyped_648 (lv_at hl 4 rfl) ?_
  refine lv_iconst X.1 X.2.1 (v := 3) dL_isTyped_650 (by decide) ?_
  refine lv_iadd X.1 X.2.1 dL_isTyped_651 ?_
  refine mm_top (w := nI (5 * sk + 3)) (nI_add (5 * sk) 3) ?_
  refine lv_iload X.1 X.2.1 dL_isTyped_652 (lv_at hl 2 rfl) ?_
  refine lv_iconst X.1 X.2.1 (v := 1) dL_isTyped_654 (by decide) ?_
  refine lv_icmp_ne X.1 X.2.1 (tgt := 666) dL_isTyped_655 (by decide) (fun _ => ?_) (fun c655 => absurd c655 (by decide))
  refine lv_iconst X.1 X.2.1 (v := 0) dL_isTyped_666 (by decide) ?_
  refine ml_ast X hT hM (k := 6) (j := 5 * sk + 3) (by decide) (show 5 * sk + 3 < 60 by omega) dL_isTyped_667 (fun M1 H locs hM hT => ?_)
  refine lv_iload X.1 X.2.1 dL_isTyped_668 (lv_at hl 0 rfl) ?_
  refine lv_iload X.1 X.2.1 dL_isTyped_670 (lv_at hl 2 rfl) ?_
  refine lv_if_ne X.1 X.2.1 (tgt := 679) dL_isTyped_672 (by decide) (fun c672 => absurd (by decide) c672) (fun _ => ?_)
  refine lv_iconst X.1 X.2.1 (v := 1) dL_isTyped_675 (by decide) ?_
  refine lv_goto X.1 X.2.1 (tgt := 680) dL_isTyped_676 (by decide) ?_
  refine lv_icmp_ne X.1 X.2.1 (tgt := 716) dL_isTyped_680 (by decide) (fun c680 => absurd (by decide) c680) (fun _ => ?_)
  refine lv_aload_n X.1 X.2.1 dL_isTyped_683 rfl (lv_at hl 7 rfl) ?_
  refine lv_aload_n X.1 X.2.1 dL_isTyped_684 rfl (lv_at hl 10 rfl) ?_
  refine lv_bipush X.1 X.2.1 (v := 7) dL_isTyped_685 (by decide) ?_
  refine lv_aload X.1 X.2.1 dL_isTyped_687 (lv_at hl 12 rfl) ?_
  refine lv_iload X.1 X.2.1 dL_isTyped_689 (lv_at hl 4 rfl) ?_
  refine ml_ald X hT hM (k := 6) (j := 5 * sk) (by decide) (show 5 * sk < 60 by omega) dL_isTyped_691 ?_
  refine mm_top (w := nI (8 * u + v)) (by rw [zs_get, if_pos rfl, if_neg (by omega), zs_get, if_pos rfl, if_neg (by omega), zs_get, if_pos rfl, if_neg (by omega)]; exact q1) ?_
  refine lv_bipush X.1 X.2.1 (v := 8) dL_isTyped_692 (by decide) ?_
  refine lv_idiv X.1 X.2.1 dL_isTyped_694 (by decide) ?_
  refine mm_top (w := nI ((8 * u + v) / 8)) (pk_div (a := 8 * u + v) (d := 8) (by omega) (by omega) (by omega)) ?_
  refine mm_top (w := nI u) (congrArg nI (show (8 * u + v) / 8 = u by omega)) ?_
  refine lv_aload X.1 X.2.1 dL_isTyped_695 (lv_at hl 12 rfl) ?_
  refine lv_iload X.1 X.2.1 dL_isTyped_697 (lv_at hl 4 rfl) ?_
  refine ml_ald X hT hM (k := 6) (j := 5 * sk) (by decide) (show 5 * sk < 60 by omega) dL_isTyped_699 ?_
  refine mm_top (w := nI (8 * u + v)) (by rw [zs_get, if_pos rfl, if_neg (by omega), zs_get, if_pos rfl, if_neg (by omega), zs_get, if_pos rfl, if_neg (by omega)]; exact q1) ?_
  refine lv_bipush X.1 X.2.1 (v := 8) dL_isTyped_700 (by decide) ?_
  refine lv_irem X.1 X.2.1 dL_isTyped_702 (by decide) ?_
  refine mm_top (w := nI ((8 * u + v) % 8)) (pk_rem (a := 8 * u + v) (d := 8) (by omega) (by omega) (by omega)) ?_
  refine mm_top (w := nI v) (congrArg nI (show (8 * u + v) % 8 = v by omega)) ?_
  refine lv_aload_n X.1 X.2.1 dL_isTyped_703 rfl (lv_at hl 10 rfl) ?_
  refine lv_iconst X.1 X.2.1 (v := 2) dL_isTyped_704 (by decide) ?_
  refine ml_ald X hT hM (k := 2) (j := 2) (by decide) (by decide) dL_isTyped_705 ?_
  refine mm_top (w := nI (ct x 5)) (by rw [zs_get, if_neg (by decide), zs_get, if_neg (by decide), zs_get, if_neg (by decide)]; exact hR.2.2.1.2.2.1) ?_
  have hLR0 := ((hR.s26 sk (q_now x)).s28 sk (cg x 28 sk + 1)).s27 sk (-1)
  rw [cs_same (show cg (cs (cs x 26 sk (q_now x)) 28 sk (cg x 28 sk + 1)) 27 sk = -1 from e27)] at hLR0
  have hx1 : q_ext (q_write (cs (cs x 26 sk (q_now x)) 28 sk (cg x 28 sk + 1)) 7 (nI u) (nI v)) (q_write (cs (cs x 26 sk (q_now x)) 28 sk (cg x 28 sk + 1)) 7 (nI u) (nI v)) := q_ext.rf _
  obtain ⟨g1, g2, g3⟩ := q_ext_at hx1
  have eS : q_seal x 7 (nI u) (nI v) = nI ((31 * sq + 7 + 10 * u + 200 * v + 2000 * ct x 5) % 1000003) := q_seal_nI (k := 7) esq hsq (by decide) (by omega) (by omega) (by omega)
  have g3 : cg (q_write (cs (cs x 26 sk (q_now x)) 28 sk (cg x 28 sk + 1)) 7 (nI u) (nI v)) 31 (ct x 32) = nI ((31 * sq + 7 + 10 * u + 200 * v + 2000 * ct x 5) % 1000003) := g3.trans eS
  have hLR := (hLR0).write 7 (nI u) (nI v)
  rw [show q_seal (cs (cs x 26 sk (q_now x)) 28 sk (cg x 28 sk + 1)) 7 (nI u) (nI v) = nI ((31 * sq + 7 + 10 * u + 200 * v + 2000 * ct x 5) % 1000003) from eS] at hLR
  refine mr_g X hT (fun hT' => mr_runS X hT' cb_RL_38 kw418 kw419 (As := [.ref o, .ref (ad 2), .int 7, .int (nI u), .int (nI v), .int (nI (ct x 5))]) (k_isStep hfl hM hX1 (s := sq) (n := ct x 32) (kd := 7) (p := u) (m := v) (tt := ct x 5) (by rw [zs_get, if_neg (by decide), zs_get, if_neg (by decide), zs_get, if_neg (by decide)]; exact (hR.2.2.1.2.2.2.2.2.2.2.2).trans esq) hsq (by rw [zs_get, if_neg (by decide), zs_get, if_neg (by decide), zs_get, if_neg (by decide)]; exact hR.2.2.1.2.2.2.2.2.2.2.1) (by decide) (by omega) (by omega) (by omega) g1 g2 g3) rfl rfl hl.1 ⟨Nat.le_of_ble_eq_true rfl, Nat.le_of_ble_eq_true rfl⟩ (Nat.le_of_ble_eq_true rfl) dL_isTyped_706 ⟨Nat.le_of_ble_eq_true rfl, Nat.le_of_ble_eq_true rfl⟩) (fun v M1 H locs hp hT => ?_)
  obtain ⟨r, rfl, rfl, hM⟩ := hp
  refine W.eq (g2 := F0 zm 709 ls (.int 1 :: _)) rfl ?_
  refine lv_if_eq X.1 X.2.1 (tgt := 716) dL_isTyped_709 (by decide) (fun c709 => absurd c709 (by decide)) (fun _ => ?_)
  refine lv_iconst X.1 X.2.1 (v := 1) dL_isTyped_712 (by decide) ?_
  refine lv_goto X.1 X.2.1 (tgt := 717) dL_isTyped_713 (by decide) ?_
  refine lv_istore X.1 X.2.1 dL_isTyped_717 hl (by decide) rfl (fun ls hl => ?_)
  refine lv_iload X.1 X.2.1 dL_isTyped_719 (lv_at hl 3 rfl) ?_
  refine lv_iconst X.1 X.2.1 (v := 2) dL_isTyped_721 (by decide) ?_
  refine lv_icmp_ne X.1 X.2.1 (tgt := 762) dL_isTyped_722 (by decide) (fun _ => ?_) (fun c722 => absurd c722 (by decide))
  refine lv_iload X.1 X.2.1 dL_isTyped_762 (lv_at hl 0 rfl) ?_
  exact mr_zret X hT hret (by first | rfl | decide | exact bI_nar _) (⟨_, rfl, rfl, _, _, ⟨hLR, ((LI.line hI sk).thr sk _).write (k := 7) v5 (by decide) (by omega) (by omega), hq1, hT5, hH⟩, hM⟩) (Nat.le_of_ble_eq_true rfl) (Nat.le_of_ble_eq_true rfl) dL_isTyped_764
set_option maxHeartbeats 4000000 in
set_option maxRecDepth 100000 in
theorem k_isTyped_31 {l : Launch} (hfl : l.stackTraces = false) {G : mw_G} {o : Nat} {ad : Nat → Nat} {x : s_T} {z : Nat → Nat → Int32} {M : mw_M} {N T wy zz : Nat} {zp : Program} {ze : Env} {zs_ : State} {zm : MethodId} {zb : List Frame} {zh : Method} {zc : Code} {ls : Array Slot} {H : Heap} {locs : List Loc} {M1 : mw_M} {p sk : Nat} (X : mw_B zp l zs_ zm zh zc cL_isTyped 16 yL_isTyped.cls G (mw_A M zs_.heap.size)) (hret : zh.sig.returnType = (some .boolean)) (hex : ex_N zs_) (hT : mw_T G (mw_A M zs_.heap.size) zs_ M1 H locs) (hM : LW G o ad x z M1) (hl : lv_has ls 16 [(13, .int (bI (decide (cg x 25 sk ≠ 0) && decide (cg x 27 sk = -1)))), (12, .int (nI 1)), (11, .int (bI (decide (cg x 25 sk ≠ 0)))), (10, .int (nI (5 * sk))), (9, .int (nI sk)), (8, .int (nI p)), (0, .ref o), (1, .ref (ad 0)), (2, .ref (ad 1)), (3, .ref (ad 2)), (4, .ref (ad 3)), (5, .ref (ad 6)), (6, .int (nI wy)), (7, .int (nI zz))]) (hS : LSt N T x z) (hN : N ≤ 500) (hz : zz < 1000000) (hp5 : p < 5) (hsk : sk < ct x 29) (d588 : (decide (cg x 25 sk ≠ 0) && decide (cg x 27 sk = -1)) = true) : W zp l ze rm_L_isTyped zs_ zm ([.ref o, .ref (ad 0), .ref (ad 1), .ref (ad 2), .ref (ad 3), .ref (ad 6), .int (nI wy), .int (nI zz)] : List Value).toArray zb zh zc H locs (0) (0) (mw_E zb G M rm_L_isTyped (mw_pi (fun r M1 => r = 1 ∧ ∃ (x1 : s_T) (z1 : Nat → Nat → Int32), LSt (N + 1) T x1 z1 ∧ LW G o ad x1 z1 M1)) ([.ref o, .ref (ad 0), .ref (ad 1), .ref (ad 2), .ref (ad 3), .ref (ad 6), .int (nI wy), .int (nI zz)] : List Value).toArray zs_) (F0 zm 588 ls []) := by
  obtain ⟨hR, hI, hq, hT5, hH⟩ := id hS
  have hV := q_inv_mono hq.1 (show N ≤ 512 by omega)
  have hX := q_inv_mono hq.1 (show N ≤ 511 by omega)
  obtain ⟨i2, i4, i10, i17, i22, i29, ilb, ils, ie, is_⟩ := id hI
  obtain ⟨v2, v4, v5⟩ := hV.le
  obtain ⟨sq, hsq, esq⟩ := id ils
  obtain ⟨⟨u, hu, eu⟩, ⟨v, hv, ev⟩⟩ := hX.se hsk
  obtain ⟨o26, o25, o27⟩ := is_ sk hsk
  obtain ⟨q1, q2, q3, q4, q5⟩ := hR.2.2.2.2.2.2 sk hsk
  rw [eu, ev, l_pr] at q1
  have hu5 : u < 5 := by omega
  have hv3 : v < 3 := by omega
  have hkd : 1 ≤ 2 := by decide
  refine lv_aload_n X.1 X.2.1 dL_isTyped_588 rfl (lv_at hl 6 rfl) ?_
  refine lv_iload X.1 X.2.1 dL_isTyped_589 (lv_at hl 4 rfl) ?_
  refine lv_iload X.1 X.2.1 dL_isTyped_591 (lv_at hl 1 rfl) ?_
  have hk3 := l_c3 (l_typc hI hsk hkd)
  have eX : f_type_s x (nI sk) (nI 1) = q_write (cs (cs x 26 sk (q_now x)) 27 sk (q_now x)) 7 (nI u) (nI v) := by unfold f_type_s f_type_y; rw [if_neg (by decide), if_pos (by decide), pn_nI (show sk < 2 ^ 31 by omega), eu, ev, q_write_c2 _ (by decide) (by decide), q_write_c2 _ (by decide) (by decide), q_write_c2 _ (by decide) (by decide)]
  refine mr_gX X hT (fun hT' => mr_runSN X hex hT' cb_RL_113 kw694 kw695 (As := [.ref o, .int (nI sk), .int (nI 1)]) (k_typed hfl hM hX hk3.1 hk3.2.1) rfl rfl hl.1 ⟨Nat.le_of_ble_eq_true rfl, Nat.le_of_ble_eq_true rfl⟩ (Nat.le_of_ble_eq_true rfl) dL_isTyped_593 ⟨Nat.le_of_ble_eq_true rfl, Nat.le_of_ble_eq_true rfl⟩) (fun E ce9 q9 H locs hp hT h1 h2 h3 => absurd hp id) (fun v M1 H locs hp hT => ?_)
  obtain ⟨r, rfl, hr, hM⟩ := hp
  have hr : r = 0 := by rw [hr, if_pos (hk3.2.2.1 d588)]; decide
  rw [if_pos (hk3.2.2.1 d588), eX] at hM
  subst hr
  refine W.eq (g2 := F0 zm 596 ls (.int 0 :: _)) rfl ?_
  have hq1 := st_type hq (show N ≤ 511 by omega) (hk3.2.2.1 d588)
  rw [eX] at hq1
  have hX1 := q_inv_mono hq1.1 (show N + 1 ≤ 511 by omega)
  have e25 : cg x 25 sk ≠ 0 := of_decide_eq_true (Bool.and_eq_true_iff.mp d588).1
  have e27 : cg x 27 sk = -1 := of_decide_eq_true (Bool.and_eq_true_iff.mp d588).2
  refine lv_istore X.1 X.2.1 dL_isTyped_596 hl (by decide) rfl (fun ls hl => ?_)
  refine lv_iload X.1 X.2.1 dL_isTyped_598 (lv_at hl 1 rfl) ?_
  refine lv_if_ne X.1 X.2.1 (tgt := 616) dL_isTyped_600 (by decide) (fun _ => ?_) (fun c600 => absurd c600 (by rw [d588]; decide))
  refine lv_aload X.1 X.2.1 dL_isTyped_616 (lv_at hl 12 rfl) ?_
  refine lv_iload X.1 X.2.1 dL_isTyped_618 (lv_at hl 4 rfl) ?_
  refine lv_iconst X.1 X.2.1 (v := 2) dL_isTyped_620 (by decide) ?_
  refine lv_iadd X.1 X.2.1 dL_isTyped_621 ?_
  refine mm_top (w := nI (5 * sk + 2)) (nI_add (5 * sk) 2) ?_
  refine lv_aload_n X.1 X.2.1 dL_isTyped_622 rfl (lv_at hl 10 rfl) ?_
  refine lv_iconst X.1 X.2.1 (v := 2) dL_isTyped_623 (by decide) ?_
  refine ml_ald X hT hM (k := 2) (j := 2) (by decide) (by decide) dL_isTyped_624 ?_
  refine mm_top (w := nI (ct x 5)) (hR.2.2.1.2.2.1) ?_
  refine ml_ast X hT hM (k := 6) (j := 5 * sk + 2) (by decide) (show 5 * sk + 2 < 60 by omega) dL_isTyped_625 (fun M1 H locs hM hT => ?_)
  refine lv_aload X.1 X.2.1 dL_isTyped_626 (lv_at hl 12 rfl) ?_
  refine lv_iload X.1 X.2.1 dL_isTyped_628 (lv_at hl 4 rfl) ?_
  refine lv_iconst X.1 X.2.1 (v := 4) dL_isTyped_630 (by decide) ?_
  refine lv_iadd X.1 X.2.1 dL_isTyped_631 ?_
  refine mm_top (w := nI (5 * sk + 4)) (nI_add (5 * sk) 4) ?_
  refine lv_dup2_11 X.1 X.2.1 dL_isTyped_632 rfl rfl ?_
  refine ml_ald X hT hM (k := 6) (j := 5 * sk + 4) (by decide) (show 5 * sk + 4 < 60 by omega) dL_isTyped_633 ?_
  refine mm_top (w := cg x 28 sk) (by rw [zs_get, if_pos rfl, if_neg (by omega)]; exact q5) ?_
  refine lv_iload X.1 X.2.1 dL_isTyped_634 (lv_at hl 2 rfl) ?_
  refine lv_if_ne X.1 X.2.1 (tgt := 643) dL_isTyped_636 (by decide) (fun _ => ?_) (fun c636 => absurd c636 (by decide))
  refine lv_iconst X.1 X.2.1 (v := 0) dL_isTyped_643 (by decide) ?_
  refine lv_iadd X.1 X.2.1 dL_isTyped_644 ?_
  refine mm_top (w := cg x 28 sk) (Int32.add_zero _) ?_
  refine ml_ast X hT hM (k := 6) (j := 5 * sk + 4) (by decide) (show 5 * sk + 4 < 60 by omega) dL_isTyped_645 (fun M1 H locs hM hT => ?_)
  refine lv_aload X.1 X.2.1 dL_isTyped_646 (lv_at hl 12 rfl) ?_
  refine lv_iload X.1 X.2.1 dL_isTyped_648 (lv_at hl 4 rfl) ?_
  refine lv_iconst X.1 X.2.1 (v := 3) dL_isTyped_650 (by decide) ?_
  refine lv_iadd X.1 X.2.1 dL_isTyped_651 ?_
  refine mm_top (w := nI (5 * sk + 3)) (nI_add (5 * sk) 3) ?_
  refine lv_iload X.1 X.2.1 dL_isTyped_652 (lv_at hl 2 rfl) ?_
  refine lv_iconst X.1 X.2.1 (v := 1) dL_isTyped_654 (by decide) ?_
  refine lv_icmp_ne X.1 X.2.1 (tgt := 666) dL_isTyped_655 (by decide) (fun c655 => absurd (by decide) c655) (fun _ => ?_)
  refine lv_aload_n X.1 X.2.1 dL_isTyped_658 rfl (lv_at hl 10 rfl) ?_
  refine lv_iconst X.1 X.2.1 (v := 2) dL_isTyped_659 (by decide) ?_
  refine ml_ald X hT hM (k := 2) (j := 2) (by decide) (by decide) dL_isTyped_660 ?_
  refine mm_top (w := nI (ct x 5)) (by rw [zs_get, if_neg (by decide), zs_get, if_neg (by decide)]; exact hR.2.2.1.2.2.1) ?_
  refine lv_iconst X.1 X.2.1 (v := 1) dL_isTyped_661 (by decide) ?_
  refine lv_iadd X.1 X.2.1 dL_isTyped_662 ?_
  refine mm_top (w := nI (ct x 5 + 1)) (nI_add (ct x 5) 1) ?_
  refine lv_goto X.1 X.2.1 (tgt := 667) dL_isTyped_663 (by decide) ?_
  refine ml_ast X hT hM (k := 6) (j := 5 * sk + 3) (by decide) (show 5 * sk + 3 < 60 by omega) dL_isTyped_667 (fun M1 H locs hM hT => ?_)
  refine lv_iload X.1 X.2.1 dL_isTyped_668 (lv_at hl 0 rfl) ?_
  refine lv_iload X.1 X.2.1 dL_isTyped_670 (lv_at hl 2 rfl) ?_
  refine lv_if_ne X.1 X.2.1 (tgt := 679) dL_isTyped_672 (by decide) (fun _ => ?_) (fun c672 => absurd c672 (by decide))
  refine lv_iconst X.1 X.2.1 (v := 0) dL_isTyped_679 (by decide) ?_
  refine lv_icmp_ne X.1 X.2.1 (tgt := 716) dL_isTyped_680 (by decide) (fun c680 => absurd (by decide) c680) (fun _ => ?_)
  refine lv_aload_n X.1 X.2.1 dL_isTyped_683 rfl (lv_at hl 7 rfl) ?_
  refine lv_aload_n X.1 X.2.1 dL_isTyped_684 rfl (lv_at hl 10 rfl) ?_
  refine lv_bipush X.1 X.2.1 (v := 7) dL_isTyped_685 (by decide) ?_
  refine lv_aload X.1 X.2.1 dL_isTyped_687 (lv_at hl 12 rfl) ?_
  refine lv_iload X.1 X.2.1 dL_isTyped_689 (lv_at hl 4 rfl) ?_
  refine ml_ald X hT hM (k := 6) (j := 5 * sk) (by decide) (show 5 * sk < 60 by omega) dL_isTyped_691 ?_
  refine mm_top (w := nI (8 * u + v)) (by rw [zs_get, if_pos rfl, if_neg (by omega), zs_get, if_pos rfl, if_neg (by omega), zs_get, if_pos rfl, if_neg (by omega)]; exact q1) ?_
  refine lv_bipush X.1 X.2.1 (v := 8) dL_isTyped_692 (by decide) ?_
  refine lv_idiv X.1 X.2.1 dL_isTyped_694 (by decide) ?_
  refine mm_top (w := nI ((8 * u + v) / 8)) (pk_div (a := 8 * u + v) (d := 8) (by omega) (by omega) (by omega)) ?_
  refine mm_top (w := nI u) (congrArg nI (show (8 * u + v) / 8 = u by omega)) ?_
  refine lv_aload X.1 X.2.1 dL_isTyped_695 (lv_at hl 12 rfl) ?_
  refine lv_iload X.1 X.2.1 dL_isTyped_697 (lv_at hl 4 rfl) ?_
  refine ml_ald X hT hM (k := 6) (j := 5 * sk) (by decide) (show 5 * sk < 60 by omega) dL_isTyped_699 ?_
  refine mm_top (w := nI (8 * u + v)) (by rw [zs_get, if_pos rfl, if_neg (by omega), zs_get, if_pos rfl, if_neg (by omega), zs_get, if_pos rfl, if_neg (by omega)]; exact q1) ?_
  refine lv_bipush X.1 X.2.1 (v := 8) dL_isTyped_700 (by decide) ?_
  refine lv_irem X.1 X.2.1 dL_isTyped_702 (by decide) ?_
  refine mm_top (w := nI ((8 * u + v) % 8)) (pk_rem (a := 8 * u + v) (d := 8) (by omega) (by omega) (by omega)) ?_
  refine mm_top (w := nI v) (congrArg nI (show (8 * u + v) % 8 = v by omega)) ?_
  refine lv_aload_n X.1 X.2.1 dL_isTyped_703 rfl (lv_at hl 10 rfl) ?_
  refine lv_iconst X.1 X.2.1 (v := 2) dL_isTyped_704 (by decide) ?_
  refine ml_ald X hT hM (k := 2) (j := 2) (by decide) (by decide) dL_isTyped_705 ?_
  refine mm_top (w := nI (ct x 5)) (by rw [zs_get, if_neg (by decide), zs_get, if_neg (by decide), zs_get, if_neg (by decide)]; exact hR.2.2.1.2.2.1) ?_
  have hLR0 := ((hR.s26 sk (q_now x)).s28 sk (cg x 28 sk)).s27 sk (q_now x)
  rw [cs_same (show cg (cs x 26 sk (q_now x)) 28 sk = cg x 28 sk from rfl), nI_1] at hLR0
  have hx1 : q_ext (q_write (cs (cs x 26 sk (q_now x)) 27 sk (q_now x)) 7 (nI u) (nI v)) (q_write (cs (cs x 26 sk (q_now x)) 27 sk (q_now x)) 7 (nI u) (nI v)) := q_ext.rf _
  obtain ⟨g1, g2, g3⟩ := q_ext_at hx1
  have eS : q_seal x 7 (nI u) (nI v) = nI ((31 * sq + 7 + 10 * u + 200 * v + 2000 * ct x 5) % 1000003) := q_seal_nI (k := 7) esq hsq (by decide) (by omega) (by omega) (by omega)
  have g3 : cg (q_write (cs (cs x 26 sk (q_now x)) 27 sk (q_now x)) 7 (nI u) (nI v)) 31 (ct x 32) = nI ((31 * sq + 7 + 10 * u + 200 * v + 2000 * ct x 5) % 1000003) := g3.trans eS
  have hLR := (hLR0).write 7 (nI u) (nI v)
  rw [show q_seal (cs (cs x 26 sk (q_now x)) 27 sk (q_now x)) 7 (nI u) (nI v) = nI ((31 * sq + 7 + 10 * u + 200 * v + 2000 * ct x 5) % 1000003) from eS] at hLR
  refine mr_g X hT (fun hT' => mr_runS X hT' cb_RL_38 kw418 kw419 (As := [.ref o, .ref (ad 2), .int 7, .int (nI u), .int (nI v), .int (nI (ct x 5))]) (k_isStep hfl hM hX1 (s := sq) (n := ct x 32) (kd := 7) (p := u) (m := v) (tt := ct x 5) (by rw [zs_get, if_neg (by decide), zs_get, if_neg (by decide), zs_get, if_neg (by decide)]; exact (hR.2.2.1.2.2.2.2.2.2.2.2).trans esq) hsq (by rw [zs_get, if_neg (by decide), zs_get, if_neg (by decide), zs_get, if_neg (by decide)]; exact hR.2.2.1.2.2.2.2.2.2.2.1) (by decide) (by omega) (by omega) (by omega) g1 g2 g3) rfl rfl hl.1 ⟨Nat.le_of_ble_eq_true rfl, Nat.le_of_ble_eq_true rfl⟩ (Nat.le_of_ble_eq_true rfl) dL_isTyped_706 ⟨Nat.le_of_ble_eq_true rfl, Nat.le_of_ble_eq_true rfl⟩) (fun v M1 H locs hp hT => ?_)
  obtain ⟨r, rfl, rfl, hM⟩ := hp
  refine W.eq (g2 := F0 zm 709 ls (.int 1 :: _)) rfl ?_
  refine lv_if_eq X.1 X.2.1 (tgt := 716) dL_isTyped_709 (by decide) (fun c709 => absurd c709 (by decide)) (fun _ => ?_)
  refine lv_iconst X.1 X.2.1 (v := 1) dL_isTyped_712 (by decide) ?_
  refine lv_goto X.1 X.2.1 (tgt := 717) dL_isTyped_713 (by decide) ?_
  refine lv_istore X.1 X.2.1 dL_isTyped_717 hl (by decide) rfl (fun ls hl => ?_)
  refine lv_iload X.1 X.2.1 dL_isTyped_719 (lv_at hl 3 rfl) ?_
  refine lv_iconst X.1 X.2.1 (v := 2) dL_isTyped_721 (by decide) ?_
  refine lv_icmp_ne X.1 X.2.1 (tgt := 762) dL_isTyped_722 (by decide) (fun _ => ?_) (fun c722 => absurd c722 (by decide))
  refine lv_iload X.1 X.2.1 dL_isTyped_762 (lv_at hl 0 rfl) ?_
  exact mr_zret X hT hret (by first | rfl | decide | exact bI_nar _) (⟨_, rfl, rfl, _, _, ⟨hLR, (LI.held (LI.line hI sk) sk (Or.inr ⟨ct x 5, Nat.lt_succ_self _, rfl⟩)).write (k := 7) v5 (by decide) (by omega) (by omega), hq1, hT5, LH.held hH (i := sk) (q_now x) (Or.inr e25)⟩, hM⟩) (Nat.le_of_ble_eq_true rfl) (Nat.le_of_ble_eq_true rfl) dL_isTyped_764
set_option maxHeartbeats 4000000 in
set_option maxRecDepth 100000 in
theorem k_isTyped_32 {l : Launch} (hfl : l.stackTraces = false) {G : mw_G} {o : Nat} {ad : Nat → Nat} {x : s_T} {z : Nat → Nat → Int32} {M : mw_M} {N T wy zz : Nat} {zp : Program} {ze : Env} {zs_ : State} {zm : MethodId} {zb : List Frame} {zh : Method} {zc : Code} {ls : Array Slot} {H : Heap} {locs : List Loc} {M1 : mw_M} {p sk : Nat} (X : mw_B zp l zs_ zm zh zc cL_isTyped 16 yL_isTyped.cls G (mw_A M zs_.heap.size)) (hret : zh.sig.returnType = (some .boolean)) (hex : ex_N zs_) (hT : mw_T G (mw_A M zs_.heap.size) zs_ M1 H locs) (hM : LW G o ad x z M1) (hl : lv_has ls 16 [(13, .int (bI (decide (cg x 25 sk ≠ 0) && decide (cg x 27 sk = -1)))), (12, .int (nI 2)), (11, .int (bI (decide (cg x 25 sk ≠ 0)))), (10, .int (nI (5 * sk))), (9, .int (nI sk)), (8, .int (nI p)), (0, .ref o), (1, .ref (ad 0)), (2, .ref (ad 1)), (3, .ref (ad 2)), (4, .ref (ad 3)), (5, .ref (ad 6)), (6, .int (nI wy)), (7, .int (nI zz))]) (hS : LSt N T x z) (hN : N ≤ 500) (hz : zz < 1000000) (hp5 : p < 5) (hsk : sk < ct x 29) (d588 : (decide (cg x 25 sk ≠ 0) && decide (cg x 27 sk = -1)) = true) : W zp l ze rm_L_isTyped zs_ zm ([.ref o, .ref (ad 0), .ref (ad 1), .ref (ad 2), .ref (ad 3), .ref (ad 6), .int (nI wy), .int (nI zz)] : List Value).toArray zb zh zc H locs (0) (0) (mw_E zb G M rm_L_isTyped (mw_pi (fun r M1 => r = 1 ∧ ∃ (x1 : s_T) (z1 : Nat → Nat → Int32), LSt (N + 1) T x1 z1 ∧ LW G o ad x1 z1 M1)) ([.ref o, .ref (ad 0), .ref (ad 1), .ref (ad 2), .ref (ad 3), .ref (ad 6), .int (nI wy), .int (nI zz)] : List Value).toArray zs_) (F0 zm 588 ls []) := by
  obtain ⟨hR, hI, hq, hT5, hH⟩ := id hS
  have hV := q_inv_mono hq.1 (show N ≤ 512 by omega)
  have hX := q_inv_mono hq.1 (show N ≤ 511 by omega)
  obtain ⟨i2, i4, i10, i17, i22, i29, ilb, ils, ie, is_⟩ := id hI
  obtain ⟨v2, v4, v5⟩ := hV.le
  obtain ⟨sq, hsq, esq⟩ := id ils
  obtain ⟨⟨u, hu, eu⟩, ⟨v, hv, ev⟩⟩ := hX.se hsk
  obtain ⟨o26, o25, o27⟩ := is_ sk hsk
  obtain ⟨q1, q2, q3, q4, q5⟩ := hR.2.2.2.2.2.2 sk hsk
  rw [eu, ev, l_pr] at q1
  have hu5 : u < 5 := by omega
  have hv3 : v < 3 := by omega
  have hkd : 2 ≤ 2 := by decide
  refine lv_aload_n X.1 X.2.1 dL_isTyped_588 rfl (lv_at hl 6 rfl) ?_
  refine lv_iload X.1 X.2.1 dL_isTyped_589 (lv_at hl 4 rfl) ?_
  refine lv_iload X.1 X.2.1 dL_isTyped_591 (lv_at hl 1 rfl) ?_
  have hk3 := l_c3 (l_typc hI hsk hkd)
  have eX : f_type_s x (nI sk) (nI 2) = (q_closes (q_ends (q_write (cs x 26 sk (q_now x)) 7 (nI u) (nI v)) (nI u) (nI v)) (nI sk)).1 := by unfold f_type_s f_type_y; rw [if_neg (by decide), if_neg (by decide), pn_nI (show sk < 2 ^ 31 by omega), eu, ev]
  refine mr_gX X hT (fun hT' => mr_runSN X hex hT' cb_RL_113 kw694 kw695 (As := [.ref o, .int (nI sk), .int (nI 2)]) (k_typed hfl hM hX hk3.1 hk3.2.1) rfl rfl hl.1 ⟨Nat.le_of_ble_eq_true rfl, Nat.le_of_ble_eq_true rfl⟩ (Nat.le_of_ble_eq_true rfl) dL_isTyped_593 ⟨Nat.le_of_ble_eq_true rfl, Nat.le_of_ble_eq_true rfl⟩) (fun E ce9 q9 H locs hp hT h1 h2 h3 => absurd hp id) (fun v M1 H locs hp hT => ?_)
  obtain ⟨r, rfl, hr, hM⟩ := hp
  have hr : r = 0 := by rw [hr, if_pos (hk3.2.2.1 d588)]; decide
  rw [if_pos (hk3.2.2.1 d588), eX] at hM
  subst hr
  refine W.eq (g2 := F0 zm 596 ls (.int 0 :: _)) rfl ?_
  have hq1 := st_type hq (show N ≤ 511 by omega) (hk3.2.2.1 d588)
  rw [eX] at hq1
  have hX1 := q_inv_mono hq1.1 (show N + 1 ≤ 511 by omega)
  have e25 : cg x 25 sk ≠ 0 := of_decide_eq_true (Bool.and_eq_true_iff.mp d588).1
  have e27 : cg x 27 sk = -1 := of_decide_eq_true (Bool.and_eq_true_iff.mp d588).2
  refine lv_istore X.1 X.2.1 dL_isTyped_596 hl (by decide) rfl (fun ls hl => ?_)
  refine lv_iload X.1 X.2.1 dL_isTyped_598 (lv_at hl 1 rfl) ?_
  refine lv_if_ne X.1 X.2.1 (tgt := 616) dL_isTyped_600 (by decide) (fun _ => ?_) (fun c600 => absurd c600 (by rw [d588]; decide))
  refine lv_aload X.1 X.2.1 dL_isTyped_616 (lv_at hl 12 rfl) ?_
  refine lv_iload X.1 X.2.1 dL_isTyped_618 (lv_at hl 4 rfl) ?_
  refine lv_iconst X.1 X.2.1 (v := 2) dL_isTyped_620 (by decide) ?_
  refine lv_iadd X.1 X.2.1 dL_isTyped_621 ?_
  refine mm_top (w := nI (5 * sk + 2)) (nI_add (5 * sk) 2) ?_
  refine lv_aload_n X.1 X.2.1 dL_isTyped_622 rfl (lv_at hl 10 rfl) ?_
  refine lv_iconst X.1 X.2.1 (v := 2) dL_isTyped_623 (by decide) ?_
  refine ml_ald X hT hM (k := 2) (j := 2) (by decide) (by decide) dL_isTyped_624 ?_
  refine mm_top (w := nI (ct x 5)) (hR.2.2.1.2.2.1) ?_
  refine ml_ast X hT hM (k := 6) (j := 5 * sk + 2) (by decide) (show 5 * sk + 2 < 60 by omega) dL_isTyped_625 (fun M1 H locs hM hT => ?_)
  refine lv_aload X.1 X.2.1 dL_isTyped_626 (lv_at hl 12 rfl) ?_
  refine lv_iload X.1 X.2.1 dL_isTyped_628 (lv_at hl 4 rfl) ?_
  refine lv_iconst X.1 X.2.1 (v := 4) dL_isTyped_630 (by decide) ?_
  refine lv_iadd X.1 X.2.1 dL_isTyped_631 ?_
  refine mm_top (w := nI (5 * sk + 4)) (nI_add (5 * sk) 4) ?_
  refine lv_dup2_11 X.1 X.2.1 dL_isTyped_632 rfl rfl ?_
  refine ml_ald X hT hM (k := 6) (j := 5 * sk + 4) (by decide) (show 5 * sk + 4 < 60 by omega) dL_isTyped_633 ?_
  refine mm_top (w := cg x 28 sk) (by rw [zs_get, if_pos rfl, if_neg (by omega)]; exact q5) ?_
  refine lv_iload X.1 X.2.1 dL_isTyped_634 (lv_at hl 2 rfl) ?_
  refine lv_if_ne X.1 X.2.1 (tgt := 643) dL_isTyped_636 (by decide) (fun _ => ?_) (fun c636 => absurd c636 (by decide))
  refine lv_iconst X.1 X.2.1 (v := 0) dL_isTyped_643 (by decide) ?_
  refine lv_iadd X.1 X.2.1 dL_isTyped_644 ?_
  refine mm_top (w := cg x 28 sk) (Int32.add_zero _) ?_
  refine ml_ast X hT hM (k := 6) (j := 5 * sk + 4) (by decide) (show 5 * sk + 4 < 60 by omega) dL_isTyped_645 (fun M1 H locs hM hT => ?_)
  refine lv_aload X.1 X.2.1 dL_isTyped_646 (lv_at hl 12 rfl) ?_
  refine lv_iload X.1 X.2.1 dL_isTyped_648 (lv_at hl 4 rfl) ?_
  refine lv_iconst X.1 X.2.1 (v := 3) dL_isTyped_650 (by decide) ?_
  refine lv_iadd X.1 X.2.1 dL_isTyped_651 ?_
  refine mm_top (w := nI (5 * sk + 3)) (nI_add (5 * sk) 3) ?_
  refine lv_iload X.1 X.2.1 dL_isTyped_652 (lv_at hl 2 rfl) ?_
  refine lv_iconst X.1 X.2.1 (v := 1) dL_isTyped_654 (by decide) ?_
  refine lv_icmp_ne X.1 X.2.1 (tgt := 666) dL_isTyped_655 (by decide) (fun _ => ?_) (fun c655 => absurd c655 (by decide))
  refine lv_iconst X.1 X.2.1 (v := 0) dL_isTyped_666 (by decide) ?_
  refine ml_ast X hT hM (k := 6) (j := 5 * sk + 3) (by decide) (show 5 * sk + 3 < 60 by omega) dL_isTyped_667 (fun M1 H locs hM hT => ?_)
  refine lv_iload X.1 X.2.1 dL_isTyped_668 (lv_at hl 0 rfl) ?_
  refine lv_iload X.1 X.2.1 dL_isTyped_670 (lv_at hl 2 rfl) ?_
  refine lv_if_ne X.1 X.2.1 (tgt := 679) dL_isTyped_672 (by decide) (fun _ => ?_) (fun c672 => absurd c672 (by decide))
  refine lv_iconst X.1 X.2.1 (v := 0) dL_isTyped_679 (by decide) ?_
  refine lv_icmp_ne X.1 X.2.1 (tgt := 716) dL_isTyped_680 (by decide) (fun c680 => absurd (by decide) c680) (fun _ => ?_)
  refine lv_aload_n X.1 X.2.1 dL_isTyped_683 rfl (lv_at hl 7 rfl) ?_
  refine lv_aload_n X.1 X.2.1 dL_isTyped_684 rfl (lv_at hl 10 rfl) ?_
  refine lv_bipush X.1 X.2.1 (v := 7) dL_isTyped_685 (by decide) ?_
  refine lv_aload X.1 X.2.1 dL_isTyped_687 (lv_at hl 12 rfl) ?_
  refine lv_iload X.1 X.2.1 dL_isTyped_689 (lv_at hl 4 rfl) ?_
  refine ml_ald X hT hM (k := 6) (j := 5 * sk) (by decide) (show 5 * sk < 60 by omega) dL_isTyped_691 ?_
  refine mm_top (w := nI (8 * u + v)) (by rw [zs_get, if_pos rfl, if_neg (by omega), zs_get, if_pos rfl, if_neg (by omega), zs_get, if_pos rfl, if_neg (by omega)]; exact q1) ?_
  refine lv_bipush X.1 X.2.1 (v := 8) dL_isTyped_692 (by decide) ?_
  refine lv_idiv X.1 X.2.1 dL_isTyped_694 (by decide) ?_
  refine mm_top (w := nI ((8 * u + v) / 8)) (pk_div (a := 8 * u + v) (d := 8) (by omega) (by omega) (by omega)) ?_
  refine mm_top (w := nI u) (congrArg nI (show (8 * u + v) / 8 = u by omega)) ?_
  refine lv_aload X.1 X.2.1 dL_isTyped_695 (lv_at hl 12 rfl) ?_
  refine lv_iload X.1 X.2.1 dL_isTyped_697 (lv_at hl 4 rfl) ?_
  refine ml_ald X hT hM (k := 6) (j := 5 * sk) (by decide) (show 5 * sk < 60 by omega) dL_isTyped_699 ?_
  refine mm_top (w := nI (8 * u + v)) (by rw [zs_get, if_pos rfl, if_neg (by omega), zs_get, if_pos rfl, if_neg (by omega), zs_get, if_pos rfl, if_neg (by omega)]; exact q1) ?_
  refine lv_bipush X.1 X.2.1 (v := 8) dL_isTyped_700 (by decide) ?_
  refine lv_irem X.1 X.2.1 dL_isTyped_702 (by decide) ?_
  refine mm_top (w := nI ((8 * u + v) % 8)) (pk_rem (a := 8 * u + v) (d := 8) (by omega) (by omega) (by omega)) ?_
  refine mm_top (w := nI v) (congrArg nI (show (8 * u + v) % 8 = v by omega)) ?_
  refine lv_aload_n X.1 X.2.1 dL_isTyped_703 rfl (lv_at hl 10 rfl) ?_
  refine lv_iconst X.1 X.2.1 (v := 2) dL_isTyped_704 (by decide) ?_
  refine ml_ald X hT hM (k := 2) (j := 2) (by decide) (by decide) dL_isTyped_705 ?_
  refine mm_top (w := nI (ct x 5)) (by rw [zs_get, if_neg (by decide), zs_get, if_neg (by decide), zs_get, if_neg (by decide)]; exact hR.2.2.1.2.2.1) ?_
  have hLR0 := ((hR.s26 sk (q_now x)).s28 sk (cg x 28 sk)).s27 sk (-1)
  rw [cs_same (show cg (cs x 26 sk (q_now x)) 28 sk = cg x 28 sk from rfl), cs_same (show cg (cs x 26 sk (q_now x)) 27 sk = -1 from e27)] at hLR0
  have hx0 : q_ext (q_write (cs x 26 sk (q_now x)) 7 (nI u) (nI v)) (q_ends (q_write (cs x 26 sk (q_now x)) 7 (nI u) (nI v)) (nI u) (nI v)) := q_rec.ext ⟨rfl, rfl, rfl⟩
  have hx1 : q_ext (q_write (cs x 26 sk (q_now x)) 7 (nI u) (nI v)) ((q_closes (q_ends (q_write (cs x 26 sk (q_now x)) 7 (nI u) (nI v)) (nI u) (nI v)) (nI sk)).1) := hx0.tr (q_ext_closes (k := 0) _ _ (Nat.zero_le _))
  obtain ⟨g1, g2, g3⟩ := q_ext_at hx1
  have eS : q_seal x 7 (nI u) (nI v) = nI ((31 * sq + 7 + 10 * u + 200 * v + 2000 * ct x 5) % 1000003) := q_seal_nI (k := 7) esq hsq (by decide) (by omega) (by omega) (by omega)
  have g3 : cg ((q_closes (q_ends (q_write (cs x 26 sk (q_now x)) 7 (nI u) (nI v)) (nI u) (nI v)) (nI sk)).1) 31 (ct x 32) = nI ((31 * sq + 7 + 10 * u + 200 * v + 2000 * ct x 5) % 1000003) := g3.trans eS
  have hLR := hLR0.write 7 (nI u) (nI v)
  rw [show q_seal (cs x 26 sk (q_now x)) 7 (nI u) (nI v) = nI ((31 * sq + 7 + 10 * u + 200 * v + 2000 * ct x 5) % 1000003) from eS] at hLR
  have hI7 : LI (q_write (cs x 26 sk (q_now x)) 7 (nI u) (nI v)) := (LI.line hI sk).write (k := 7) v5 (by decide) (by omega) (by omega)
  have hV7 : q_inv 512 (q_write (cs x 26 sk (q_now x)) 7 (nI u) (nI v)) := q_inv_mono (q_inv_write (q_inv_cs hX sk (q_now x) (by decide : 26 ∉ [1, 3, 6, 7, 11, 12, 14, 16, 18, 19, 21, 23, 24, 28]) (by decide)) 7 (nI u) (nI v)) (by omega)
  refine mr_g X hT (fun hT' => mr_runS X hT' cb_RL_38 kw418 kw419 (As := [.ref o, .ref (ad 2), .int 7, .int (nI u), .int (nI v), .int (nI (ct x 5))]) (k_isStep hfl hM hX1 (s := sq) (n := ct x 32) (kd := 7) (p := u) (m := v) (tt := ct x 5) (by rw [zs_get, if_neg (by decide), zs_get, if_neg (by decide), zs_get, if_neg (by decide)]; exact (hR.2.2.1.2.2.2.2.2.2.2.2).trans esq) hsq (by rw [zs_get, if_neg (by decide), zs_get, if_neg (by decide), zs_get, if_neg (by decide)]; exact hR.2.2.1.2.2.2.2.2.2.2.1) (by decide) (by omega) (by omega) (by omega) g1 g2 g3) rfl rfl hl.1 ⟨Nat.le_of_ble_eq_true rfl, Nat.le_of_ble_eq_true rfl⟩ (Nat.le_of_ble_eq_true rfl) dL_isTyped_706 ⟨Nat.le_of_ble_eq_true rfl, Nat.le_of_ble_eq_true rfl⟩) (fun v M1 H locs hp hT => ?_)
  obtain ⟨r, rfl, rfl, hM⟩ := hp
  refine W.eq (g2 := F0 zm 709 ls (.int 1 :: _)) rfl ?_
  refine lv_if_eq X.1 X.2.1 (tgt := 716) dL_isTyped_709 (by decide) (fun c709 => absurd c709 (by decide)) (fun _ => ?_)
  refine lv_iconst X.1 X.2.1 (v := 1) dL_isTyped_712 (by decide) ?_
  refine lv_goto X.1 X.2.1 (tgt := 717) dL_isTyped_713 (by decide) ?_
  refine lv_istore X.1 X.2.1 dL_isTyped_717 hl (by decide) rfl (fun ls hl => ?_)
  refine lv_iload X.1 X.2.1 dL_isTyped_719 (lv_at hl 3 rfl) ?_
  refine lv_iconst X.1 X.2.1 (v := 2) dL_isTyped_721 (by decide) ?_
  refine lv_icmp_ne X.1 X.2.1 (tgt := 762) dL_isTyped_722 (by decide) (fun c722 => absurd (by decide) c722) (fun _ => ?_)
  refine lv_aload X.1 X.2.1 dL_isTyped_725 (lv_at hl 12 rfl) ?_
  refine lv_aload_n X.1 X.2.1 dL_isTyped_727 rfl (lv_at hl 11 rfl) ?_
  refine lv_aload X.1 X.2.1 dL_isTyped_728 (lv_at hl 13 rfl) ?_
  refine lv_iload X.1 X.2.1 dL_isTyped_730 (lv_at hl 5 rfl) ?_
  refine ml_ald X hT hM (k := 6) (j := 5 * sk) (by decide) (show 5 * sk < 60 by omega) dL_isTyped_732 ?_
  refine mm_top (w := nI (8 * u + v)) (by rw [zs_get, if_neg (by decide), zs_get, if_neg (by decide), zs_get, if_pos rfl, if_neg (by omega), zs_get, if_pos rfl, if_neg (by omega), zs_get, if_pos rfl, if_neg (by omega)]; exact q1) ?_
  refine mr_g X hT (fun hT' => mr_runS X hT' cb_RL_116 kw443 kw444 (As := [.ref (ad 3), .ref (ad 2), .int (nI (8 * u + v))]) (k_end hfl hM hLR hI7 hV7 (u := u) (v := v) (by omega) (by omega)) rfl rfl hl.1 ⟨Nat.le_of_ble_eq_true rfl, Nat.le_of_ble_eq_true rfl⟩ (Nat.le_of_ble_eq_true rfl) dL_isTyped_733 ⟨Nat.le_of_ble_eq_true rfl, Nat.le_of_ble_eq_true rfl⟩) (fun v M1 H locs hp hT => ?_)
  obtain ⟨rfl, z1, hR1, hM⟩ := hp
  refine W.eq (g2 := F0 zm 736 ls _) rfl ?_
  refine lv_iload X.1 X.2.1 dL_isTyped_736 (lv_at hl 0 rfl) ?_
  refine lv_if_eq X.1 X.2.1 (tgt := 759) dL_isTyped_738 (by decide) (fun c738 => absurd c738 (by decide)) (fun _ => ?_)
  refine lv_aload_n X.1 X.2.1 dL_isTyped_741 rfl (lv_at hl 8 rfl) ?_
  refine lv_aload X.1 X.2.1 dL_isTyped_742 (lv_at hl 12 rfl) ?_
  refine lv_aload X.1 X.2.1 dL_isTyped_744 (lv_at hl 13 rfl) ?_
  refine lv_aload_n X.1 X.2.1 dL_isTyped_746 rfl (lv_at hl 11 rfl) ?_
  refine lv_iload X.1 X.2.1 dL_isTyped_747 (lv_at hl 6 rfl) ?_
  refine mr_g X hT (fun hT' => mr_runS X hT' cb_RL_120 kw449 kw450 (As := [.ref o, .ref (ad 3), .ref (ad 6), .ref (ad 2), .int (nI sk)]) (k_shut hfl hM hR1 (LI.ends hI7 _ _) (q_inv_ends hV7 _ _) hX1 (q_ext.rf _)) rfl rfl hl.1 ⟨Nat.le_of_ble_eq_true rfl, Nat.le_of_ble_eq_true rfl⟩ (Nat.le_of_ble_eq_true rfl) dL_isTyped_749 ⟨Nat.le_of_ble_eq_true rfl, Nat.le_of_ble_eq_true rfl⟩) (fun v M1 H locs hp hT => ?_)
  obtain ⟨r, rfl, hr, z2, hR2, hM⟩ := hp
  obtain ⟨cn, hc0, hc1, ecn⟩ := q_cnt_pos (y := q_ends (q_write (cs x 26 sk (q_now x)) 7 (nI u) (nI v)) (nI u) (nI v)) (k := sk) hsk e25
  rw [ecn] at hr
  subst hr
  refine W.eq (g2 := F0 zm 752 ls (.int (nI cn) :: _)) rfl ?_
  have hc2 : cn ≤ 12 := Nat.le_trans hc1 i29
  refine lv_if_le X.1 X.2.1 (tgt := 759) dL_isTyped_752 (by decide) (fun c752 => absurd c752 (nI_nle hc0 (by omega))) (fun c752 => ?_)
  refine lv_iconst X.1 X.2.1 (v := 1) dL_isTyped_755 (by decide) ?_
  refine lv_goto X.1 X.2.1 (tgt := 760) dL_isTyped_756 (by decide) ?_
  refine lv_istore X.1 X.2.1 dL_isTyped_760 hl (by decide) rfl (fun ls hl => ?_)
  refine lv_iload X.1 X.2.1 dL_isTyped_762 (lv_at hl 0 rfl) ?_
  exact mr_zret X hT hret (by first | rfl | decide | exact bI_nar _) (⟨_, rfl, rfl, _, _, ⟨hR2, LI.close (LI.ends hI7 _ _) (q_inv_ends hV7 _ _) _ _ (Nat.le_refl _), hq1, (q_closes_ct (by decide)).trans hT5, LH.close (y := q_ends (q_write (cs x 26 sk (q_now x)) 7 (nI u) (nI v)) (nI u) (nI v)) hH _ _⟩, hM⟩) (Nat.le_of_ble_eq_true rfl) (Nat.le_of_ble_eq_true rfl) dL_isTyped_764
set_option maxHeartbeats 4000000 in
set_option maxRecDepth 100000 in
theorem k_isTyped_3 {l : Launch} (hfl : l.stackTraces = false) {G : mw_G} {o : Nat} {ad : Nat → Nat} {x : s_T} {z : Nat → Nat → Int32} {M : mw_M} {N T wy zz : Nat} {zp : Program} {ze : Env} {zs_ : State} {zm : MethodId} {zb : List Frame} {zh : Method} {zc : Code} {ls : Array Slot} {H : Heap} {locs : List Loc} {M1 : mw_M} {p sk : Nat} (X : mw_B zp l zs_ zm zh zc cL_isTyped 16 yL_isTyped.cls G (mw_A M zs_.heap.size)) (hret : zh.sig.returnType = (some .boolean)) (hex : ex_N zs_) (hT : mw_T G (mw_A M zs_.heap.size) zs_ M1 H locs) (hM : LW G o ad x z M1) (hl : lv_has ls 16 [(11, .int (bI (decide (cg x 25 sk ≠ 0)))), (10, .int (nI (5 * sk))), (9, .int (nI sk)), (8, .int (nI p)), (0, .ref o), (1, .ref (ad 0)), (2, .ref (ad 1)), (3, .ref (ad 2)), (4, .ref (ad 3)), (5, .ref (ad 6)), (6, .int (nI wy)), (7, .int (nI zz))]) (hS : LSt N T x z) (hN : N ≤ 500) (hz : zz < 1000000) (hp5 : p < 5) (hsk : sk < ct x 29) : W zp l ze rm_L_isTyped zs_ zm ([.ref o, .ref (ad 0), .ref (ad 1), .ref (ad 2), .ref (ad 3), .ref (ad 6), .int (nI wy), .int (nI zz)] : List Value).toArray zb zh zc H locs (0) (0) (mw_E zb G M rm_L_isTyped (mw_pi (fun r M1 => r = 1 ∧ ∃ (x1 : s_T) (z1 : Nat → Nat → Int32), LSt (N + 1) T x1 z1 ∧ LW G o ad x1 z1 M1)) ([.ref o, .ref (ad 0), .ref (ad 1), .ref (ad 2), .ref (ad 3), .ref (ad 6), .int (nI wy), .int (nI zz)] : List Value).toArray zs_) (F0 zm 526 ls []) := by
  obtain ⟨hR, hI, hq, hT5, hH⟩ := id hS
  have hV := q_inv_mono hq.1 (show N ≤ 512 by omega)
  have hX := q_inv_mono hq.1 (show N ≤ 511 by omega)
  obtain ⟨i2, i4, i10, i17, i22, i29, ilb, ils, ie, is_⟩ := id hI
  obtain ⟨v2, v4, v5⟩ := hV.le
  obtain ⟨sq, hsq, esq⟩ := id ils
  obtain ⟨⟨u, hu, eu⟩, ⟨v, hv, ev⟩⟩ := hX.se hsk
  obtain ⟨o26, o25, o27⟩ := is_ sk hsk
  obtain ⟨q1, q2, q3, q4, q5⟩ := hR.2.2.2.2.2.2 sk hsk
  rw [eu, ev, l_pr] at q1
  have hu5 : u < 5 := by omega
  have hv3 : v < 3 := by omega
  refine mw_join hT 564 (0) (0) (fun r M1 => r = nI (l_kd zz) ∧ LW G o ad x z M1) (fun r M1 H locs hp hT => ?_) (fun J564 => ?_)
  · obtain ⟨rfl, hM⟩ := hp
    obtain ⟨kd, hkd, ekd⟩ : ∃ kd, kd ≤ 2 ∧ l_kd zz = kd := ⟨_, l_kd_le zz, rfl⟩
    rw [ekd]
    refine lv_istore X.1 X.2.1 dL_isTyped_564 hl (by decide) rfl (fun ls hl => ?_)
    refine mw_join hT 586 (0) (0) (fun r M1 => r = bI (decide (cg x 25 sk ≠ 0) && decide (cg x 27 sk = -1)) ∧ LW G o ad x z M1) (fun r M1 H locs hp hT => ?_) (fun J586 => ?_)
    · obtain ⟨rfl, hM⟩ := hp
      refine lv_istore X.1 X.2.1 dL_isTyped_586 hl (by decide) rfl (fun ls hl => ?_)
      by_cases d588 : (decide (cg x 25 sk ≠ 0) && decide (cg x 27 sk = -1)) = true
      · skip
        rcases (show kd = 0 ∨ kd = 1 ∨ kd = 2 by omega) with rfl | rfl | rfl
        · skip
          exact k_isTyped_30 hfl X hret hex hT hM hl hS hN hz hp5 hsk d588
        · skip
          exact k_isTyped_31 hfl X hret hex hT hM hl hS hN hz hp5 hsk d588
        · skip
          exact k_isTyped_32 hfl X hret hex hT hM hl hS hN hz hp5 hsk d588
      · have d588 : (decide (cg x 25 sk ≠ 0) && decide (cg x 27 sk = -1)) = false := Bool.eq_false_iff.mpr d588
        refine lv_aload_n X.1 X.2.1 dL_isTyped_588 rfl (lv_at hl 6 rfl) ?_
        refine lv_iload X.1 X.2.1 dL_isTyped_589 (lv_at hl 4 rfl) ?_
        refine lv_iload X.1 X.2.1 dL_isTyped_591 (lv_at hl 1 rfl) ?_
        have hk3 := l_c3 (l_typc hI hsk hkd)
        refine mr_gX X hT (fun hT' => mr_runSN X hex hT' cb_RL_113 kw694 kw695 (As := [.ref o, .int (nI sk), .int (nI kd)]) (k_typed hfl hM hX hk3.1 hk3.2.1) rfl rfl hl.1 ⟨Nat.le_of_ble_eq_true rfl, Nat.le_of_ble_eq_true rfl⟩ (Nat.le_of_ble_eq_true rfl) dL_isTyped_593 ⟨Nat.le_of_ble_eq_true rfl, Nat.le_of_ble_eq_true rfl⟩) (fun E ce9 q9 H locs hp hT h1 h2 h3 => absurd hp id) (fun v M1 H locs hp hT => ?_)
        obtain ⟨r, rfl, hr, hM⟩ := hp
        rw [if_neg (hk3.2.2.2 d588)] at hr hM
        subst hr
        refine W.eq (g2 := F0 zm 596 ls (.int ((-2)) :: _)) rfl ?_
        refine lv_istore X.1 X.2.1 dL_isTyped_596 hl (by decide) rfl (fun ls hl => ?_)
        refine lv_iload X.1 X.2.1 dL_isTyped_598 (lv_at hl 1 rfl) ?_
        refine lv_if_ne X.1 X.2.1 (tgt := 616) dL_isTyped_600 (by decide) (fun c600 => absurd (by rw [d588]; decide) c600) (fun _ => ?_)
        refine lv_iload X.1 X.2.1 dL_isTyped_603 (lv_at hl 0 rfl) ?_
        refine lv_bipush X.1 X.2.1 (v := -2) dL_isTyped_605 (by decide) ?_
        refine lv_icmp_ne X.1 X.2.1 (tgt := 614) dL_isTyped_607 (by decide) (fun c607 => absurd (by decide) c607) (fun _ => ?_)
        refine lv_iconst X.1 X.2.1 (v := 1) dL_isTyped_610 (by decide) ?_
        refine lv_goto X.1 X.2.1 (tgt := 615) dL_isTyped_611 (by decide) ?_
        exact mr_zret X hT hret (by first | rfl | decide | exact bI_nar _) (⟨_, rfl, rfl, _, _, ⟨hR, hI, st_same hq, hT5, hH⟩, hM⟩) (Nat.le_of_ble_eq_true rfl) (Nat.le_of_ble_eq_true rfl) dL_isTyped_615
    · skip
      refine lv_iload X.1 X.2.1 dL_isTyped_566 (lv_at hl 1 rfl) ?_
      refine lv_if_eq X.1 X.2.1 (tgt := 585) dL_isTyped_568 (by decide) (fun c568 => ?_) (fun c568 => ?_)
      · skip
        have d568 : (decide (cg x 25 sk ≠ 0)) = false := bI_0.mp c568
        refine lv_iconst X.1 X.2.1 (v := 0) dL_isTyped_585 (by decide) ?_
        refine W.widen (k := 0) (n := 0) (show ((0) : Nat) ≤ 0 by omega) (show ((0) : Nat) ≤ 0 by omega) ?_
        exact J586 _ _ _ _ ⟨by first | (rw [d568]; rfl) | (rw [d568, decide_eq_false (fun h => c578 (l_eq0.mpr h))]; rfl) | (rw [d568, decide_eq_true (l_eq0.mp c578)]; rfl), hM⟩ hT
      · skip
        have d568 : (decide (cg x 25 sk ≠ 0)) = true := bI_n.mp c568
        refine lv_aload X.1 X.2.1 dL_isTyped_571 (lv_at hl 10 rfl) ?_
        refine lv_iload X.1 X.2.1 dL_isTyped_573 (lv_at hl 2 rfl) ?_
        refine lv_iconst X.1 X.2.1 (v := 3) dL_isTyped_575 (by decide) ?_
        refine lv_iadd X.1 X.2.1 dL_isTyped_576 ?_
        refine mm_top (w := nI (5 * sk + 3)) (nI_add (5 * sk) 3) ?_
        refine ml_ald X hT hM (k := 6) (j := 5 * sk + 3) (by decide) (show 5 * sk + 3 < 60 by omega) dL_isTyped_577 ?_
        refine mm_top (w := cg x 27 sk + 1) (q4) ?_
        refine lv_if_ne X.1 X.2.1 (tgt := 585) dL_isTyped_578 (by decide) (fun c578 => ?_) (fun c578 => ?_)
        · skip
          refine lv_iconst X.1 X.2.1 (v := 0) dL_isTyped_585 (by decide) ?_
          refine W.widen (k := 0) (n := 0) (show ((0) : Nat) ≤ 0 by omega) (show ((0) : Nat) ≤ 0 by omega) ?_
          exact J586 _ _ _ _ ⟨by first | (rw [d568]; rfl) | (rw [d568, decide_eq_false (fun h => c578 (l_eq0.mpr h))]; rfl) | (rw [d568, decide_eq_true (l_eq0.mp c578)]; rfl), hM⟩ hT
        · skip
          refine lv_iconst X.1 X.2.1 (v := 1) dL_isTyped_581 (by decide) ?_
          refine lv_goto X.1 X.2.1 (tgt := 586) dL_isTyped_582 (by decide) ?_
          refine W.widen (k := 0) (n := 0) (show ((0) : Nat) ≤ 0 by omega) (show ((0) : Nat) ≤ 0 by omega) ?_
          exact J586 _ _ _ _ ⟨by first | (rw [d568]; rfl) | (rw [d568, decide_eq_false (fun h => c578 (l_eq0.mpr h))]; rfl) | (rw [d568, decide_eq_true (l_eq0.mp c578)]; rfl), hM⟩ hT
  · skip
    refine lv_iload X.1 X.2.1 dL_isTyped_526 (lv_at hl 11 rfl) ?_
    refine lv_bipush X.1 X.2.1 (v := 45) dL_isTyped_528 (by decide) ?_
    refine lv_idiv X.1 X.2.1 dL_isTyped_530 (by decide) ?_
    refine mm_top (w := nI (zz / 45)) (pk_div (a := zz) (d := 45) (by omega) (by omega) (by omega)) ?_
    refine lv_iconst X.1 X.2.1 (v := 5) dL_isTyped_531 (by decide) ?_
    refine lv_irem X.1 X.2.1 dL_isTyped_532 (by decide) ?_
    refine mm_top (w := nI ((zz / 45) % 5)) (pk_rem (a := zz / 45) (d := 5) (by omega) (by omega) (by omega)) ?_
    refine lv_iconst X.1 X.2.1 (v := 3) dL_isTyped_533 (by decide) ?_
    refine lv_icmp_ge X.1 X.2.1 (tgt := 541) dL_isTyped_534 (by decide) (fun c534 => ?_) (fun c534 => ?_)
    · skip
      have e534 : ¬ zz / 45 % 5 < 3 := fun h => absurd c534 (nI_ge (a := zz / 45 % 5) (b := 3) h (by decide))
      refine lv_iload X.1 X.2.1 dL_isTyped_541 (lv_at hl 11 rfl) ?_
      refine lv_bipush X.1 X.2.1 (v := 45) dL_isTyped_543 (by decide) ?_
      refine lv_idiv X.1 X.2.1 dL_isTyped_545 (by decide) ?_
      refine mm_top (w := nI (zz / 45)) (pk_div (a := zz) (d := 45) (by omega) (by omega) (by omega)) ?_
      refine lv_iconst X.1 X.2.1 (v := 5) dL_isTyped_546 (by decide) ?_
      refine lv_irem X.1 X.2.1 dL_isTyped_547 (by decide) ?_
      refine mm_top (w := nI ((zz / 45) % 5)) (pk_rem (a := zz / 45) (d := 5) (by omega) (by omega) (by omega)) ?_
      refine lv_iconst X.1 X.2.1 (v := 3) dL_isTyped_548 (by decide) ?_
      refine lv_icmp_ne X.1 X.2.1 (tgt := 556) dL_isTyped_549 (by decide) (fun c549 => ?_) (fun c549 => ?_)
      · skip
        have e549 : ¬ zz / 45 % 5 = 3 := fun h => c549 (by rw [h]; rfl)
        refine lv_iload X.1 X.2.1 dL_isTyped_556 (lv_at hl 11 rfl) ?_
        refine lv_sipush X.1 X.2.1 (v := 225) dL_isTyped_558 (by decide) ?_
        refine lv_idiv X.1 X.2.1 dL_isTyped_561 (by decide) ?_
        refine mm_top (w := nI (zz / 225)) (pk_div (a := zz) (d := 225) (by omega) (by omega) (by omega)) ?_
        refine lv_iconst X.1 X.2.1 (v := 3) dL_isTyped_562 (by decide) ?_
        refine lv_irem X.1 X.2.1 dL_isTyped_563 (by decide) ?_
        refine mm_top (w := nI ((zz / 225) % 3)) (pk_rem (a := zz / 225) (d := 3) (by omega) (by omega) (by omega)) ?_
        refine W.widen (k := 0) (n := 0) (show ((0) : Nat) ≤ 0 by omega) (show ((0) : Nat) ≤ 0 by omega) ?_
        exact J564 _ _ _ _ ⟨by first | exact congrArg nI (show 0 = l_kd zz by rw [l_kd, if_pos e534]) | exact congrArg nI (show 1 = l_kd zz by rw [l_kd, if_neg e534, if_pos e549]) | exact congrArg nI (show zz / 225 % 3 = l_kd zz by rw [l_kd, if_neg e534, if_neg e549]), hM⟩ hT
      · skip
        have e549 : zz / 45 % 5 = 3 := (nI_eq (a := zz / 45 % 5) (b := 3) (by omega) (by omega)).mp c549
        refine lv_iconst X.1 X.2.1 (v := 1) dL_isTyped_552 (by decide) ?_
        refine lv_goto X.1 X.2.1 (tgt := 564) dL_isTyped_553 (by decide) ?_
        refine W.widen (k := 0) (n := 0) (show ((0) : Nat) ≤ 0 by omega) (show ((0) : Nat) ≤ 0 by omega) ?_
        exact J564 _ _ _ _ ⟨by first | exact congrArg nI (show 0 = l_kd zz by rw [l_kd, if_pos e534]) | exact congrArg nI (show 1 = l_kd zz by rw [l_kd, if_neg e534, if_pos e549]) | exact congrArg nI (show zz / 225 % 3 = l_kd zz by rw [l_kd, if_neg e534, if_neg e549]), hM⟩ hT
    · skip
      have e534 : zz / 45 % 5 < 3 := Nat.lt_of_not_le (fun h => c534 ((nI_leI (a := 3) (by omega) (by omega)).mpr h))
      refine lv_iconst X.1 X.2.1 (v := 0) dL_isTyped_537 (by decide) ?_
      refine lv_goto X.1 X.2.1 (tgt := 564) dL_isTyped_538 (by decide) ?_
      refine W.widen (k := 0) (n := 0) (show ((0) : Nat) ≤ 0 by omega) (show ((0) : Nat) ≤ 0 by omega) ?_
      exact J564 _ _ _ _ ⟨by first | exact congrArg nI (show 0 = l_kd zz by rw [l_kd, if_pos e534]) | exact congrArg nI (show 1 = l_kd zz by rw [l_kd, if_neg e534, if_pos e549]) | exact congrArg nI (show zz / 225 % 3 = l_kd zz by rw [l_kd, if_neg e534, if_neg e549]), hM⟩ hT
set_option maxHeartbeats 4000000 in
set_option maxRecDepth 100000 in
theorem k_isTyped_2 {l : Launch} (hfl : l.stackTraces = false) {G : mw_G} {o : Nat} {ad : Nat → Nat} {x : s_T} {z : Nat → Nat → Int32} {M : mw_M} {N T wy zz : Nat} {zp : Program} {ze : Env} {zs_ : State} {zm : MethodId} {zb : List Frame} {zh : Method} {zc : Code} {ls : Array Slot} {H : Heap} {locs : List Loc} {M1 : mw_M} {p sk : Nat} (X : mw_B zp l zs_ zm zh zc cL_isTyped 16 yL_isTyped.cls G (mw_A M zs_.heap.size)) (hret : zh.sig.returnType = (some .boolean)) (hex : ex_N zs_) (hT : mw_T G (mw_A M zs_.heap.size) zs_ M1 H locs) (hM : LW G o ad x z M1) (hl : lv_has ls 16 [(11, .int (bI (decide (cg x 25 sk ≠ 0)))), (10, .int (nI (5 * sk))), (9, .int (nI sk)), (8, .int (nI p)), (0, .ref o), (1, .ref (ad 0)), (2, .ref (ad 1)), (3, .ref (ad 2)), (4, .ref (ad 3)), (5, .ref (ad 6)), (6, .int (nI wy)), (7, .int (nI zz))]) (hS : LSt N T x z) (hN : N ≤ 500) (hz : zz < 1000000) (hp5 : p < 5) (hsk : sk < ct x 29) : W zp l ze rm_L_isTyped zs_ zm ([.ref o, .ref (ad 0), .ref (ad 1), .ref (ad 2), .ref (ad 3), .ref (ad 6), .int (nI wy), .int (nI zz)] : List Value).toArray zb zh zc H locs (0) (0) (mw_E zb G M rm_L_isTyped (mw_pi (fun r M1 => r = 1 ∧ ∃ (x1 : s_T) (z1 : Nat → Nat → Int32), LSt (N + 1) T x1 z1 ∧ LW G o ad x1 z1 M1)) ([.ref o, .ref (ad 0), .ref (ad 1), .ref (ad 2), .ref (ad 3), .ref (ad 6), .int (nI wy), .int (nI zz)] : List Value).toArray zs_) (F0 zm 434 ls []) := by
  obtain ⟨hR, hI, hq, hT5, hH⟩ := id hS
  have hV := q_inv_mono hq.1 (show N ≤ 512 by omega)
  have hX := q_inv_mono hq.1 (show N ≤ 511 by omega)
  obtain ⟨i2, i4, i10, i17, i22, i29, ilb, ils, ie, is_⟩ := id hI
  obtain ⟨v2, v4, v5⟩ := hV.le
  obtain ⟨sq, hsq, esq⟩ := id ils
  obtain ⟨⟨u, hu, eu⟩, ⟨v, hv, ev⟩⟩ := hX.se hsk
  obtain ⟨o26, o25, o27⟩ := is_ sk hsk
  obtain ⟨q1, q2, q3, q4, q5⟩ := hR.2.2.2.2.2.2 sk hsk
  rw [eu, ev, l_pr] at q1
  have hu5 : u < 5 := by omega
  have hv3 : v < 3 := by omega
  refine lv_iload X.1 X.2.1 dL_isTyped_434 (lv_at hl 10 rfl) ?_
  refine lv_iconst X.1 X.2.1 (v := 2) dL_isTyped_436 (by decide) ?_
  refine lv_icmp_ne X.1 X.2.1 (tgt := 526) dL_isTyped_437 (by decide) (fun c437 => ?_) (fun c437 => ?_)
  · skip
    exact k_isTyped_3 hfl X hret hex hT hM hl hS hN hz hp5 hsk
  · skip
    by_cases d440 : (decide (cg x 25 sk ≠ 0)) = true
    · skip
      refine lv_aload_n X.1 X.2.1 dL_isTyped_440 rfl (lv_at hl 4 rfl) ?_
      refine lv_iload X.1 X.2.1 dL_isTyped_441 (lv_at hl 2 rfl) ?_
      have hk2 := l_c2 (l_cloc hI hsk)
      refine mr_gX X hT (fun hT' => mr_runSN X hex hT' cb_RL_109 kw687 kw688 (As := [.ref o, .int (nI sk)]) (k_closed hfl hM hX hk2.1) rfl rfl hl.1 ⟨Nat.le_of_ble_eq_true rfl, Nat.le_of_ble_eq_true rfl⟩ (Nat.le_of_ble_eq_true rfl) dL_isTyped_443 ⟨Nat.le_of_ble_eq_true rfl, Nat.le_of_ble_eq_true rfl⟩) (fun E ce9 q9 H locs hp hT h1 h2 h3 => absurd hp id) (fun v M1 H locs hp hT => ?_)
      obtain ⟨r, rfl, hr, hM⟩ := hp
      rw [if_pos (hk2.2.1 d440)] at hr hM
      subst hr
      refine W.eq (g2 := F0 zm 446 ls (.int (cg x 28 (pn (nI sk))) :: _)) rfl ?_
      have hq1 := st_close (a := nI sk) hq (show N ≤ 511 by omega) (hk2.2.1 d440)
      have hX1 := q_inv_mono hq1.1 (show N + 1 ≤ 511 by omega)
      refine mm_top (w := cg x 28 sk) (by rw [pn_nI (show sk < 2 ^ 31 by omega)]) ?_
      have eX2 : q_shut x sk = q_write (cs (cs x 25 sk 0) 27 sk (-1)) 6 (nI u) (nI v) := by unfold q_shut; rw [eu, ev]
      have eX : q_shut x (pn (nI sk)) = q_write (cs (cs x 25 sk 0) 27 sk (-1)) 6 (nI u) (nI v) := by rw [pn_nI (show sk < 2 ^ 31 by omega)]; exact eX2
      rw [eX] at hM hq1 hX1
      have hI1 := LI.shut hI hX hsk
      have hH1 := LH.shut hH sk
      rw [eX2] at hI1 hH1
      refine lv_istore X.1 X.2.1 dL_isTyped_446 hl (by decide) rfl (fun ls hl => ?_)
      refine lv_aload X.1 X.2.1 dL_isTyped_448 (lv_at hl 10 rfl) ?_
      refine lv_iload X.1 X.2.1 dL_isTyped_450 (lv_at hl 2 rfl) ?_
      refine lv_iconst X.1 X.2.1 (v := 1) dL_isTyped_452 (by decide) ?_
      refine lv_iadd X.1 X.2.1 dL_isTyped_453 ?_
      refine mm_top (w := nI (5 * sk + 1)) (nI_add (5 * sk) 1) ?_
      refine lv_iconst X.1 X.2.1 (v := 0) dL_isTyped_454 (by decide) ?_
      refine ml_ast X hT hM (k := 6) (j := 5 * sk + 1) (by decide) (show 5 * sk + 1 < 60 by omega) dL_isTyped_455 (fun M1 H locs hM hT => ?_)
      refine lv_aload X.1 X.2.1 dL_isTyped_456 (lv_at hl 10 rfl) ?_
      refine lv_iload X.1 X.2.1 dL_isTyped_458 (lv_at hl 2 rfl) ?_
      refine lv_iconst X.1 X.2.1 (v := 3) dL_isTyped_460 (by decide) ?_
      refine lv_iadd X.1 X.2.1 dL_isTyped_461 ?_
      refine mm_top (w := nI (5 * sk + 3)) (nI_add (5 * sk) 3) ?_
      refine lv_iconst X.1 X.2.1 (v := 0) dL_isTyped_462 (by decide) ?_
      refine ml_ast X hT hM (k := 6) (j := 5 * sk + 3) (by decide) (show 5 * sk + 3 < 60 by omega) dL_isTyped_463 (fun M1 H locs hM hT => ?_)
      refine lv_iload X.1 X.2.1 dL_isTyped_464 (lv_at hl 0 rfl) ?_
      refine lv_iload X.1 X.2.1 dL_isTyped_466 (lv_at hl 1 rfl) ?_
      refine lv_if_eq X.1 X.2.1 (tgt := 481) dL_isTyped_468 (by decide) (fun c468 => absurd c468 (by rw [d440]; decide)) (fun _ => ?_)
      refine lv_aload X.1 X.2.1 dL_isTyped_471 (lv_at hl 10 rfl) ?_
      refine lv_iload X.1 X.2.1 dL_isTyped_473 (lv_at hl 2 rfl) ?_
      refine lv_iconst X.1 X.2.1 (v := 4) dL_isTyped_475 (by decide) ?_
      refine lv_iadd X.1 X.2.1 dL_isTyped_476 ?_
      refine mm_top (w := nI (5 * sk + 4)) (nI_add (5 * sk) 4) ?_
      refine ml_ald X hT hM (k := 6) (j := 5 * sk + 4) (by decide) (show 5 * sk + 4 < 60 by omega) dL_isTyped_477 ?_
      refine mm_top (w := cg x 28 sk) (by rw [zs_get, if_pos rfl, if_neg (by omega), zs_get, if_pos rfl, if_neg (by omega)]; exact q5) ?_
      refine lv_goto X.1 X.2.1 (tgt := 483) dL_isTyped_478 (by decide) ?_
      refine lv_icmp_ne X.1 X.2.1 (tgt := 524) dL_isTyped_483 (by decide) (fun c483 => absurd c483 (fun h => h rfl)) (fun c483 => ?_)
      refine lv_iload X.1 X.2.1 dL_isTyped_486 (lv_at hl 1 rfl) ?_
      refine lv_if_eq X.1 X.2.1 (tgt := 520) dL_isTyped_488 (by decide) (fun c488 => absurd c488 (by rw [d440]; decide)) (fun _ => ?_)
      refine lv_aload_n X.1 X.2.1 dL_isTyped_491 rfl (lv_at hl 5 rfl) ?_
      refine lv_aload_n X.1 X.2.1 dL_isTyped_492 rfl (lv_at hl 8 rfl) ?_
      refine lv_bipush X.1 X.2.1 (v := 6) dL_isTyped_493 (by decide) ?_
      refine lv_aload X.1 X.2.1 dL_isTyped_495 (lv_at hl 10 rfl) ?_
      refine lv_iload X.1 X.2.1 dL_isTyped_497 (lv_at hl 2 rfl) ?_
      refine ml_ald X hT hM (k := 6) (j := 5 * sk) (by decide) (show 5 * sk < 60 by omega) dL_isTyped_499 ?_
      refine mm_top (w := nI (8 * u + v)) (by rw [zs_get, if_pos rfl, if_neg (by omega), zs_get, if_pos rfl, if_neg (by omega)]; exact q1) ?_
      refine lv_bipush X.1 X.2.1 (v := 8) dL_isTyped_500 (by decide) ?_
      refine lv_idiv X.1 X.2.1 dL_isTyped_502 (by decide) ?_
      refine mm_top (w := nI ((8 * u + v) / 8)) (pk_div (a := 8 * u + v) (d := 8) (by omega) (by omega) (by omega)) ?_
      refine mm_top (w := nI u) (congrArg nI (show (8 * u + v) / 8 = u by omega)) ?_
      refine lv_aload X.1 X.2.1 dL_isTyped_503 (lv_at hl 10 rfl) ?_
      refine lv_iload X.1 X.2.1 dL_isTyped_505 (lv_at hl 2 rfl) ?_
      refine ml_ald X hT hM (k := 6) (j := 5 * sk) (by decide) (show 5 * sk < 60 by omega) dL_isTyped_507 ?_
      refine mm_top (w := nI (8 * u + v)) (by rw [zs_get, if_pos rfl, if_neg (by omega), zs_get, if_pos rfl, if_neg (by omega)]; exact q1) ?_
      refine lv_bipush X.1 X.2.1 (v := 8) dL_isTyped_508 (by decide) ?_
      refine lv_irem X.1 X.2.1 dL_isTyped_510 (by decide) ?_
      refine mm_top (w := nI ((8 * u + v) % 8)) (pk_rem (a := 8 * u + v) (d := 8) (by omega) (by omega) (by omega)) ?_
      refine mm_top (w := nI v) (congrArg nI (show (8 * u + v) % 8 = v by omega)) ?_
      refine lv_aload_n X.1 X.2.1 dL_isTyped_511 rfl (lv_at hl 8 rfl) ?_
      refine lv_iconst X.1 X.2.1 (v := 2) dL_isTyped_512 (by decide) ?_
      refine ml_ald X hT hM (k := 2) (j := 2) (by decide) (by decide) dL_isTyped_513 ?_
      refine mm_top (w := nI (ct x 5)) (by rw [zs_get, if_neg (by decide), zs_get, if_neg (by decide)]; exact hR.2.2.1.2.2.1) ?_
      have hx1 : q_ext (q_write (cs (cs x 25 sk 0) 27 sk (-1)) 6 (nI u) (nI v)) (q_write (cs (cs x 25 sk 0) 27 sk (-1)) 6 (nI u) (nI v)) := q_ext.rf _
      obtain ⟨g1, g2, g3⟩ := q_ext_at hx1
      have eS : q_seal x 6 (nI u) (nI v) = nI ((31 * sq + 6 + 10 * u + 200 * v + 2000 * ct x 5) % 1000003) := q_seal_nI (k := 6) esq hsq (by decide) (by omega) (by omega) (by omega)
      have g3 : cg (q_write (cs (cs x 25 sk 0) 27 sk (-1)) 6 (nI u) (nI v)) 31 (ct x 32) = nI ((31 * sq + 6 + 10 * u + 200 * v + 2000 * ct x 5) % 1000003) := g3.trans eS
      have hLR := ((hR.s25 sk 0).s27 sk (-1)).write 6 (nI u) (nI v)
      rw [show q_seal (cs (cs x 25 sk 0) 27 sk (-1)) 6 (nI u) (nI v) = nI ((31 * sq + 6 + 10 * u + 200 * v + 2000 * ct x 5) % 1000003) from eS] at hLR
      refine mr_g X hT (fun hT' => mr_runS X hT' cb_RL_38 kw418 kw419 (As := [.ref o, .ref (ad 2), .int 6, .int (nI u), .int (nI v), .int (nI (ct x 5))]) (k_isStep hfl hM hX1 (s := sq) (n := ct x 32) (kd := 6) (p := u) (m := v) (tt := ct x 5) (by rw [zs_get, if_neg (by decide), zs_get, if_neg (by decide)]; exact (hR.2.2.1.2.2.2.2.2.2.2.2).trans esq) hsq (by rw [zs_get, if_neg (by decide), zs_get, if_neg (by decide)]; exact hR.2.2.1.2.2.2.2.2.2.2.1) (by decide) (by omega) (by omega) (by omega) g1 g2 g3) rfl rfl hl.1 ⟨Nat.le_of_ble_eq_true rfl, Nat.le_of_ble_eq_true rfl⟩ (Nat.le_of_ble_eq_true rfl) dL_isTyped_514 ⟨Nat.le_of_ble_eq_true rfl, Nat.le_of_ble_eq_true rfl⟩) (fun v M1 H locs hp hT => ?_)
      obtain ⟨r, rfl, rfl, hM⟩ := hp
      refine W.eq (g2 := F0 zm 517 ls (.int 1 :: _)) rfl ?_
      refine lv_if_eq X.1 X.2.1 (tgt := 524) dL_isTyped_517 (by decide) (fun c517 => absurd c517 (by decide)) (fun _ => ?_)
      refine lv_iconst X.1 X.2.1 (v := 1) dL_isTyped_520 (by decide) ?_
      refine lv_goto X.1 X.2.1 (tgt := 525) dL_isTyped_521 (by decide) ?_
      exact mr_zret X hT hret (by first | rfl | decide | exact bI_nar _) (⟨_, rfl, rfl, _, _, ⟨hLR, hI1, hq1, hT5, hH1⟩, hM⟩) (Nat.le_of_ble_eq_true rfl) (Nat.le_of_ble_eq_true rfl) dL_isTyped_525
    · have d440 : (decide (cg x 25 sk ≠ 0)) = false := Bool.eq_false_iff.mpr d440
      refine lv_aload_n X.1 X.2.1 dL_isTyped_440 rfl (lv_at hl 4 rfl) ?_
      refine lv_iload X.1 X.2.1 dL_isTyped_441 (lv_at hl 2 rfl) ?_
      have hk2 := l_c2 (l_cloc hI hsk)
      refine mr_gX X hT (fun hT' => mr_runSN X hex hT' cb_RL_109 kw687 kw688 (As := [.ref o, .int (nI sk)]) (k_closed hfl hM hX hk2.1) rfl rfl hl.1 ⟨Nat.le_of_ble_eq_true rfl, Nat.le_of_ble_eq_true rfl⟩ (Nat.le_of_ble_eq_true rfl) dL_isTyped_443 ⟨Nat.le_of_ble_eq_true rfl, Nat.le_of_ble_eq_true rfl⟩) (fun E ce9 q9 H locs hp hT h1 h2 h3 => absurd hp id) (fun v M1 H locs hp hT => ?_)
      obtain ⟨r, rfl, hr, hM⟩ := hp
      rw [if_neg (hk2.2.2 d440)] at hr hM
      subst hr
      refine W.eq (g2 := F0 zm 446 ls (.int ((-2)) :: _)) rfl ?_
      refine lv_istore X.1 X.2.1 dL_isTyped_446 hl (by decide) rfl (fun ls hl => ?_)
      refine lv_aload X.1 X.2.1 dL_isTyped_448 (lv_at hl 10 rfl) ?_
      refine lv_iload X.1 X.2.1 dL_isTyped_450 (lv_at hl 2 rfl) ?_
      refine lv_iconst X.1 X.2.1 (v := 1) dL_isTyped_452 (by decide) ?_
      refine lv_iadd X.1 X.2.1 dL_isTyped_453 ?_
      refine mm_top (w := nI (5 * sk + 1)) (nI_add (5 * sk) 1) ?_
      refine lv_iconst X.1 X.2.1 (v := 0) dL_isTyped_454 (by decide) ?_
      refine ml_ast X hT hM (k := 6) (j := 5 * sk + 1) (by decide) (show 5 * sk + 1 < 60 by omega) dL_isTyped_455 (fun M1 H locs hM hT => ?_)
      refine lv_aload X.1 X.2.1 dL_isTyped_456 (lv_at hl 10 rfl) ?_
      refine lv_iload X.1 X.2.1 dL_isTyped_458 (lv_at hl 2 rfl) ?_
      refine lv_iconst X.1 X.2.1 (v := 3) dL_isTyped_460 (by decide) ?_
      refine lv_iadd X.1 X.2.1 dL_isTyped_461 ?_
      refine mm_top (w := nI (5 * sk + 3)) (nI_add (5 * sk) 3) ?_
      refine lv_iconst X.1 X.2.1 (v := 0) dL_isTyped_462 (by decide) ?_
      refine ml_ast X hT hM (k := 6) (j := 5 * sk + 3) (by decide) (show 5 * sk + 3 < 60 by omega) dL_isTyped_463 (fun M1 H locs hM hT => ?_)
      refine lv_iload X.1 X.2.1 dL_isTyped_464 (lv_at hl 0 rfl) ?_
      refine lv_iload X.1 X.2.1 dL_isTyped_466 (lv_at hl 1 rfl) ?_
      refine lv_if_eq X.1 X.2.1 (tgt := 481) dL_isTyped_468 (by decide) (fun _ => ?_) (fun c468 => absurd (by rw [d440]; decide) c468)
      refine lv_bipush X.1 X.2.1 (v := -2) dL_isTyped_481 (by decide) ?_
      refine lv_icmp_ne X.1 X.2.1 (tgt := 524) dL_isTyped_483 (by decide) (fun c483 => absurd c483 (fun h => h rfl)) (fun c483 => ?_)
      refine lv_iload X.1 X.2.1 dL_isTyped_486 (lv_at hl 1 rfl) ?_
      refine lv_if_eq X.1 X.2.1 (tgt := 520) dL_isTyped_488 (by decide) (fun _ => ?_) (fun c488 => absurd (by rw [d440]; decide) c488)
      refine lv_iconst X.1 X.2.1 (v := 1) dL_isTyped_520 (by decide) ?_
      refine lv_goto X.1 X.2.1 (tgt := 525) dL_isTyped_521 (by decide) ?_
      have e25 : cg x 25 sk = 0 := Classical.byContradiction (fun h => absurd (decide_eq_true h) (by rw [d440]; decide))
      have e27 := hH sk hsk e25
      have hLR := (hR.s25 sk 0).s27 sk (-1)
      rw [cs_same e25, cs_same e27] at hLR
      exact mr_zret X hT hret (by first | rfl | decide | exact bI_nar _) (⟨_, rfl, rfl, _, _, ⟨hLR, hI, st_same hq, hT5, hH⟩, hM⟩) (Nat.le_of_ble_eq_true rfl) (Nat.le_of_ble_eq_true rfl) dL_isTyped_525
set_option maxHeartbeats 4000000 in
set_option maxRecDepth 100000 in
theorem k_isTyped_1 {l : Launch} (hfl : l.stackTraces = false) {G : mw_G} {o : Nat} {ad : Nat → Nat} {x : s_T} {z : Nat → Nat → Int32} {M : mw_M} {N T wy zz : Nat} {zp : Program} {ze : Env} {zs_ : State} {zm : MethodId} {zb : List Frame} {zh : Method} {zc : Code} {ls : Array Slot} {H : Heap} {locs : List Loc} {M1 : mw_M} {p sk : Nat} (X : mw_B zp l zs_ zm zh zc cL_isTyped 16 yL_isTyped.cls G (mw_A M zs_.heap.size)) (hret : zh.sig.returnType = (some .boolean)) (hex : ex_N zs_) (hT : mw_T G (mw_A M zs_.heap.size) zs_ M1 H locs) (hM : LW G o ad x z M1) (hl : lv_has ls 16 [(11, .int (bI (decide (cg x 25 sk ≠ 0)))), (10, .int (nI (5 * sk))), (9, .int (nI sk)), (8, .int (nI p)), (0, .ref o), (1, .ref (ad 0)), (2, .ref (ad 1)), (3, .ref (ad 2)), (4, .ref (ad 3)), (5, .ref (ad 6)), (6, .int (nI wy)), (7, .int (nI zz))]) (hS : LSt N T x z) (hN : N ≤ 500) (hz : zz < 1000000) (hp5 : p < 5) (hsk : sk < ct x 29) : W zp l ze rm_L_isTyped zs_ zm ([.ref o, .ref (ad 0), .ref (ad 1), .ref (ad 2), .ref (ad 3), .ref (ad 6), .int (nI wy), .int (nI zz)] : List Value).toArray zb zh zc H locs (0) (0) (mw_E zb G M rm_L_isTyped (mw_pi (fun r M1 => r = 1 ∧ ∃ (x1 : s_T) (z1 : Nat → Nat → Int32), LSt (N + 1) T x1 z1 ∧ LW G o ad x1 z1 M1)) ([.ref o, .ref (ad 0), .ref (ad 1), .ref (ad 2), .ref (ad 3), .ref (ad 6), .int (nI wy), .int (nI zz)] : List Value).toArray zs_) (F0 zm 258 ls []) := by
  obtain ⟨hR, hI, hq, hT5, hH⟩ := id hS
  have hV := q_inv_mono hq.1 (show N ≤ 512 by omega)
  have hX := q_inv_mono hq.1 (show N ≤ 511 by omega)
  obtain ⟨i2, i4, i10, i17, i22, i29, ilb, ils, ie, is_⟩ := id hI
  obtain ⟨v2, v4, v5⟩ := hV.le
  obtain ⟨sq, hsq, esq⟩ := id ils
  obtain ⟨⟨u, hu, eu⟩, ⟨v, hv, ev⟩⟩ := hX.se hsk
  obtain ⟨o26, o25, o27⟩ := is_ sk hsk
  obtain ⟨q1, q2, q3, q4, q5⟩ := hR.2.2.2.2.2.2 sk hsk
  rw [eu, ev, l_pr] at q1
  have hu5 : u < 5 := by omega
  have hv3 : v < 3 := by omega
  refine mw_join hT 317 (0) (0) (fun r M1 => r = bI (decide (cg x 25 sk ≠ 0) && (decide (cg x 27 sk ≠ -1) && (decide (cg x 0 p ≠ cg x 0 u) && q_has x (nI p) (nI v)))) ∧ LW G o ad x z M1) (fun r M1 H locs hp hT => ?_) (fun J317 => ?_)
  · obtain ⟨rfl, hM⟩ := hp
    refine lv_istore X.1 X.2.1 dL_isTyped_317 hl (by decide) rfl (fun ls hl => ?_)
    refine lv_aload_n X.1 X.2.1 dL_isTyped_319 rfl (lv_at hl 8 rfl) ?_
    refine lv_iconst X.1 X.2.1 (v := 2) dL_isTyped_320 (by decide) ?_
    refine ml_ald X hT hM (k := 2) (j := 2) (by decide) (by decide) dL_isTyped_321 ?_
    refine mm_top (w := nI (ct x 5)) (hR.2.2.1.2.2.1) ?_
    refine lv_aload X.1 X.2.1 dL_isTyped_322 (lv_at hl 10 rfl) ?_
    refine lv_iload X.1 X.2.1 dL_isTyped_324 (lv_at hl 2 rfl) ?_
    refine lv_iconst X.1 X.2.1 (v := 3) dL_isTyped_326 (by decide) ?_
    refine lv_iadd X.1 X.2.1 dL_isTyped_327 ?_
    refine mm_top (w := nI (5 * sk + 3)) (nI_add (5 * sk) 3) ?_
    refine ml_ald X hT hM (k := 6) (j := 5 * sk + 3) (by decide) (show 5 * sk + 3 < 60 by omega) dL_isTyped_328 ?_
    refine mm_top (w := cg x 27 sk + 1) (q4) ?_
    refine lv_isub X.1 X.2.1 dL_isTyped_329 ?_
    refine lv_iconst X.1 X.2.1 (v := 1) dL_isTyped_330 (by decide) ?_
    refine lv_iadd X.1 X.2.1 dL_isTyped_331 ?_
    refine mm_top (w := nI (ct x 5) - cg x 27 sk) (l_min _ _) ?_
    refine lv_istore X.1 X.2.1 dL_isTyped_332 hl (by decide) rfl (fun ls hl => ?_)
    refine lv_aload X.1 X.2.1 dL_isTyped_334 (lv_at hl 11 rfl) ?_
    refine lv_iload X.1 X.2.1 dL_isTyped_336 (lv_at hl 3 rfl) ?_
    refine lv_iconst X.1 X.2.1 (v := 3) dL_isTyped_338 (by decide) ?_
    refine lv_iadd X.1 X.2.1 dL_isTyped_339 ?_
    refine mm_top (w := nI (5 * sk + 3)) (nI_add (5 * sk) 3) ?_
    refine lv_iload X.1 X.2.1 dL_isTyped_340 (lv_at hl 1 rfl) ?_
    refine lv_if_eq X.1 X.2.1 (tgt := 349) dL_isTyped_342 (by decide) (fun c342 => ?_) (fun c342 => ?_)
    · skip
      have d342 : (decide (cg x 25 sk ≠ 0) && (decide (cg x 27 sk ≠ -1) && (decide (cg x 0 p ≠ cg x 0 u) && q_has x (nI p) (nI v)))) = false := bI_0.mp c342
      refine lv_aload X.1 X.2.1 dL_isTyped_349 (lv_at hl 11 rfl) ?_
      refine lv_iload X.1 X.2.1 dL_isTyped_351 (lv_at hl 3 rfl) ?_
      refine lv_iconst X.1 X.2.1 (v := 3) dL_isTyped_353 (by decide) ?_
      refine lv_iadd X.1 X.2.1 dL_isTyped_354 ?_
      refine mm_top (w := nI (5 * sk + 3)) (nI_add (5 * sk) 3) ?_
      refine ml_ald X hT hM (k := 6) (j := 5 * sk + 3) (by decide) (show 5 * sk + 3 < 60 by omega) dL_isTyped_355 ?_
      refine mm_top (w := cg x 27 sk + 1) (q4) ?_
      refine ml_ast X hT hM (k := 6) (j := 5 * sk + 3) (by decide) (show 5 * sk + 3 < 60 by omega) dL_isTyped_356 (fun M1 H locs hM hT => ?_)
      refine lv_aload X.1 X.2.1 dL_isTyped_357 (lv_at hl 11 rfl) ?_
      refine lv_iload X.1 X.2.1 dL_isTyped_359 (lv_at hl 3 rfl) ?_
      refine lv_iconst X.1 X.2.1 (v := 4) dL_isTyped_361 (by decide) ?_
      refine lv_iadd X.1 X.2.1 dL_isTyped_362 ?_
      refine mm_top (w := nI (5 * sk + 4)) (nI_add (5 * sk) 4) ?_
      refine lv_dup2_11 X.1 X.2.1 dL_isTyped_363 rfl rfl ?_
      refine ml_ald X hT hM (k := 6) (j := 5 * sk + 4) (by decide) (show 5 * sk + 4 < 60 by omega) dL_isTyped_364 ?_
      refine mm_top (w := cg x 28 sk) (by rw [zs_get, if_pos rfl, if_neg (by omega)]; exact q5) ?_
      refine lv_iload X.1 X.2.1 dL_isTyped_365 (lv_at hl 1 rfl) ?_
      refine lv_if_eq X.1 X.2.1 (tgt := 374) dL_isTyped_367 (by decide) (fun _ => ?_) (fun c367 => absurd (by rw [d342]; decide) c367)
      refine lv_iconst X.1 X.2.1 (v := 0) dL_isTyped_374 (by decide) ?_
      refine lv_iadd X.1 X.2.1 dL_isTyped_375 ?_
      refine mm_top (w := cg x 28 sk) (Int32.add_zero _) ?_
      refine ml_ast X hT hM (k := 6) (j := 5 * sk + 4) (by decide) (show 5 * sk + 4 < 60 by omega) dL_isTyped_376 (fun M1 H locs hM hT => ?_)
      refine lv_aload_n X.1 X.2.1 dL_isTyped_377 rfl (lv_at hl 6 rfl) ?_
      refine lv_iload X.1 X.2.1 dL_isTyped_378 (lv_at hl 4 rfl) ?_
      refine lv_iload X.1 X.2.1 dL_isTyped_380 (lv_at hl 5 rfl) ?_
      have hk2 := l_c2 (l_letc hI hsk hp5 hu5 eu ev)
      refine mr_gX X hT (fun hT' => mr_runSN X hex hT' cb_RL_106 kw665 kw666 (As := [.ref o, .int (nI sk), .int (nI p)]) (k_let hfl hM hX hk2.1) rfl rfl hl.1 ⟨Nat.le_of_ble_eq_true rfl, Nat.le_of_ble_eq_true rfl⟩ (Nat.le_of_ble_eq_true rfl) dL_isTyped_382 ⟨Nat.le_of_ble_eq_true rfl, Nat.le_of_ble_eq_true rfl⟩) (fun E ce9 q9 H locs hp hT h1 h2 h3 => absurd hp id) (fun v M1 H locs hp hT => ?_)
      obtain ⟨r, rfl, hr, hM⟩ := hp
      rw [if_neg (hk2.2.2 d342)] at hr hM
      subst hr
      refine W.eq (g2 := F0 zm 385 ls (.int ((-2)) :: _)) rfl ?_
      refine lv_iload X.1 X.2.1 dL_isTyped_385 (lv_at hl 1 rfl) ?_
      refine lv_if_eq X.1 X.2.1 (tgt := 395) dL_isTyped_387 (by decide) (fun _ => ?_) (fun c387 => absurd (by rw [d342]; decide) c387)
      refine lv_bipush X.1 X.2.1 (v := -2) dL_isTyped_395 (by decide) ?_
      refine lv_icmp_ne X.1 X.2.1 (tgt := 432) dL_isTyped_397 (by decide) (fun c397 => absurd c397 (fun h => h rfl)) (fun c397 => ?_)
      refine lv_iload X.1 X.2.1 dL_isTyped_400 (lv_at hl 1 rfl) ?_
      refine lv_if_eq X.1 X.2.1 (tgt := 428) dL_isTyped_402 (by decide) (fun _ => ?_) (fun c402 => absurd (by rw [d342]; decide) c402)
      refine lv_iconst X.1 X.2.1 (v := 1) dL_isTyped_428 (by decide) ?_
      refine lv_goto X.1 X.2.1 (tgt := 433) dL_isTyped_429 (by decide) ?_
      have hLR := (hR.s27 sk (cg x 27 sk)).s28 sk (cg x 28 sk)
      rw [cs_id, cs_id] at hLR
      exact mr_zret X hT hret (by first | rfl | decide | exact bI_nar _) (⟨_, rfl, rfl, _, _, ⟨hLR, hI, st_same hq, hT5, hH⟩, hM⟩) (Nat.le_of_ble_eq_true rfl) (Nat.le_of_ble_eq_true rfl) dL_isTyped_433
    · skip
      have d342 : (decide (cg x 25 sk ≠ 0) && (decide (cg x 27 sk ≠ -1) && (decide (cg x 0 p ≠ cg x 0 u) && q_has x (nI p) (nI v)))) = true := bI_n.mp c342
      refine lv_iconst X.1 X.2.1 (v := 0) dL_isTyped_345 (by decide) ?_
      refine lv_goto X.1 X.2.1 (tgt := 356) dL_isTyped_346 (by decide) ?_
      refine ml_ast X hT hM (k := 6) (j := 5 * sk + 3) (by decide) (show 5 * sk + 3 < 60 by omega) dL_isTyped_356 (fun M1 H locs hM hT => ?_)
      refine lv_aload X.1 X.2.1 dL_isTyped_357 (lv_at hl 11 rfl) ?_
      refine lv_iload X.1 X.2.1 dL_isTyped_359 (lv_at hl 3 rfl) ?_
      refine lv_iconst X.1 X.2.1 (v := 4) dL_isTyped_361 (by decide) ?_
      refine lv_iadd X.1 X.2.1 dL_isTyped_362 ?_
      refine mm_top (w := nI (5 * sk + 4)) (nI_add (5 * sk) 4) ?_
      refine lv_dup2_11 X.1 X.2.1 dL_isTyped_363 rfl rfl ?_
      refine ml_ald X hT hM (k := 6) (j := 5 * sk + 4) (by decide) (show 5 * sk + 4 < 60 by omega) dL_isTyped_364 ?_
      refine mm_top (w := cg x 28 sk) (by rw [zs_get, if_pos rfl, if_neg (by omega)]; exact q5) ?_
      refine lv_iload X.1 X.2.1 dL_isTyped_365 (lv_at hl 1 rfl) ?_
      refine lv_if_eq X.1 X.2.1 (tgt := 374) dL_isTyped_367 (by decide) (fun c367 => absurd c367 (by rw [d342]; decide)) (fun _ => ?_)
      refine lv_iconst X.1 X.2.1 (v := 1) dL_isTyped_370 (by decide) ?_
      refine lv_goto X.1 X.2.1 (tgt := 375) dL_isTyped_371 (by decide) ?_
      refine lv_iadd X.1 X.2.1 dL_isTyped_375 ?_
      refine mm_top (w := cg x 28 sk + 1) (rfl) ?_
      refine ml_ast X hT hM (k := 6) (j := 5 * sk + 4) (by decide) (show 5 * sk + 4 < 60 by omega) dL_isTyped_376 (fun M1 H locs hM hT => ?_)
      refine lv_aload_n X.1 X.2.1 dL_isTyped_377 rfl (lv_at hl 6 rfl) ?_
      refine lv_iload X.1 X.2.1 dL_isTyped_378 (lv_at hl 4 rfl) ?_
      refine lv_iload X.1 X.2.1 dL_isTyped_380 (lv_at hl 5 rfl) ?_
      have hk2 := l_c2 (l_letc hI hsk hp5 hu5 eu ev)
      refine mr_gX X hT (fun hT' => mr_runSN X hex hT' cb_RL_106 kw665 kw666 (As := [.ref o, .int (nI sk), .int (nI p)]) (k_let hfl hM hX hk2.1) rfl rfl hl.1 ⟨Nat.le_of_ble_eq_true rfl, Nat.le_of_ble_eq_true rfl⟩ (Nat.le_of_ble_eq_true rfl) dL_isTyped_382 ⟨Nat.le_of_ble_eq_true rfl, Nat.le_of_ble_eq_true rfl⟩) (fun E ce9 q9 H locs hp hT h1 h2 h3 => absurd hp id) (fun v M1 H locs hp hT => ?_)
      obtain ⟨r, rfl, hr, hM⟩ := hp
      rw [if_pos (hk2.2.1 d342)] at hr hM
      subst hr
      refine W.eq (g2 := F0 zm 385 ls (.int (q_now x - cg x 27 (pn (nI sk))) :: _)) rfl ?_
      have hq1 := st_letThrough hq (show N ≤ 511 by omega) (hk2.2.1 d342)
      have hX1 := q_inv_mono hq1.1 (show N + 1 ≤ 511 by omega)
      refine mm_top (w := nI (ct x 5) - cg x 27 sk) (by rw [pn_nI (show sk < 2 ^ 31 by omega)]) ?_
      have eX : f_letThrough_s x (nI sk) (nI p) = q_write (cs (cs x 27 sk (-1)) 28 sk (cg x 28 sk + 1)) 8 (nI p) (nI v) := by unfold f_letThrough_s; rw [pn_nI (show sk < 2 ^ 31 by omega), ev]
      rw [eX] at hM hq1 hX1
      refine lv_iload X.1 X.2.1 dL_isTyped_385 (lv_at hl 1 rfl) ?_
      refine lv_if_eq X.1 X.2.1 (tgt := 395) dL_isTyped_387 (by decide) (fun c387 => absurd c387 (by rw [d342]; decide)) (fun _ => ?_)
      refine lv_iload X.1 X.2.1 dL_isTyped_390 (lv_at hl 0 rfl) ?_
      refine lv_goto X.1 X.2.1 (tgt := 397) dL_isTyped_392 (by decide) ?_
      refine lv_icmp_ne X.1 X.2.1 (tgt := 432) dL_isTyped_397 (by decide) (fun c397 => absurd c397 (fun h => h rfl)) (fun c397 => ?_)
      refine lv_iload X.1 X.2.1 dL_isTyped_400 (lv_at hl 1 rfl) ?_
      refine lv_if_eq X.1 X.2.1 (tgt := 428) dL_isTyped_402 (by decide) (fun c402 => absurd c402 (by rw [d342]; decide)) (fun _ => ?_)
      refine lv_aload_n X.1 X.2.1 dL_isTyped_405 rfl (lv_at hl 6 rfl) ?_
      refine lv_aload_n X.1 X.2.1 dL_isTyped_406 rfl (lv_at hl 9 rfl) ?_
      refine lv_bipush X.1 X.2.1 (v := 8) dL_isTyped_407 (by decide) ?_
      refine lv_iload X.1 X.2.1 dL_isTyped_409 (lv_at hl 5 rfl) ?_
      refine lv_aload X.1 X.2.1 dL_isTyped_411 (lv_at hl 11 rfl) ?_
      refine lv_iload X.1 X.2.1 dL_isTyped_413 (lv_at hl 3 rfl) ?_
      refine ml_ald X hT hM (k := 6) (j := 5 * sk) (by decide) (show 5 * sk < 60 by omega) dL_isTyped_415 ?_
      refine mm_top (w := nI (8 * u + v)) (by rw [zs_get, if_pos rfl, if_neg (by omega), zs_get, if_pos rfl, if_neg (by omega)]; exact q1) ?_
      refine lv_bipush X.1 X.2.1 (v := 8) dL_isTyped_416 (by decide) ?_
      refine lv_irem X.1 X.2.1 dL_isTyped_418 (by decide) ?_
      refine mm_top (w := nI ((8 * u + v) % 8)) (pk_rem (a := 8 * u + v) (d := 8) (by omega) (by omega) (by omega)) ?_
      refine mm_top (w := nI v) (congrArg nI (show (8 * u + v) % 8 = v by omega)) ?_
      refine lv_aload_n X.1 X.2.1 dL_isTyped_419 rfl (lv_at hl 9 rfl) ?_
      refine lv_iconst X.1 X.2.1 (v := 2) dL_isTyped_420 (by decide) ?_
      refine ml_ald X hT hM (k := 2) (j := 2) (by decide) (by decide) dL_isTyped_421 ?_
      refine mm_top (w := nI (ct x 5)) (by rw [zs_get, if_neg (by decide), zs_get, if_neg (by decide)]; exact hR.2.2.1.2.2.1) ?_
      have hx1 : q_ext (q_write (cs (cs x 27 sk (-1)) 28 sk (cg x 28 sk + 1)) 8 (nI p) (nI v)) (q_write (cs (cs x 27 sk (-1)) 28 sk (cg x 28 sk + 1)) 8 (nI p) (nI v)) := q_ext.rf _
      obtain ⟨g1, g2, g3⟩ := q_ext_at hx1
      have eS : q_seal x 8 (nI p) (nI v) = nI ((31 * sq + 8 + 10 * p + 200 * v + 2000 * ct x 5) % 1000003) := q_seal_nI (k := 8) esq hsq (by decide) (by omega) (by omega) (by omega)
      have g3 : cg (q_write (cs (cs x 27 sk (-1)) 28 sk (cg x 28 sk + 1)) 8 (nI p) (nI v)) 31 (ct x 32) = nI ((31 * sq + 8 + 10 * p + 200 * v + 2000 * ct x 5) % 1000003) := g3.trans eS
      have hLR := ((hR.s27 sk (-1)).s28 sk (cg x 28 sk + 1)).write 8 (nI p) (nI v)
      rw [show q_seal (cs (cs x 27 sk (-1)) 28 sk (cg x 28 sk + 1)) 8 (nI p) (nI v) = nI ((31 * sq + 8 + 10 * p + 200 * v + 2000 * ct x 5) % 1000003) from eS] at hLR
      refine mr_g X hT (fun hT' => mr_runS X hT' cb_RL_38 kw418 kw419 (As := [.ref o, .ref (ad 2), .int 8, .int (nI p), .int (nI v), .int (nI (ct x 5))]) (k_isStep hfl hM hX1 (s := sq) (n := ct x 32) (kd := 8) (p := p) (m := v) (tt := ct x 5) (by rw [zs_get, if_neg (by decide), zs_get, if_neg (by decide)]; exact (hR.2.2.1.2.2.2.2.2.2.2.2).trans esq) hsq (by rw [zs_get, if_neg (by decide), zs_get, if_neg (by decide)]; exact hR.2.2.1.2.2.2.2.2.2.2.1) (by decide) (by omega) (by omega) (by omega) g1 g2 g3) rfl rfl hl.1 ⟨Nat.le_of_ble_eq_true rfl, Nat.le_of_ble_eq_true rfl⟩ (Nat.le_of_ble_eq_true rfl) dL_isTyped_422 ⟨Nat.le_of_ble_eq_true rfl, Nat.le_of_ble_eq_true rfl⟩) (fun v M1 H locs hp hT => ?_)
      obtain ⟨r, rfl, rfl, hM⟩ := hp
      refine W.eq (g2 := F0 zm 425 ls (.int 1 :: _)) rfl ?_
      refine lv_if_eq X.1 X.2.1 (tgt := 432) dL_isTyped_425 (by decide) (fun c425 => absurd c425 (by decide)) (fun _ => ?_)
      refine lv_iconst X.1 X.2.1 (v := 1) dL_isTyped_428 (by decide) ?_
      refine lv_goto X.1 X.2.1 (tgt := 433) dL_isTyped_429 (by decide) ?_
      have e25 : cg x 25 sk ≠ 0 := of_decide_eq_true (Bool.and_eq_true_iff.mp d342).1
      exact mr_zret X hT hret (by first | rfl | decide | exact bI_nar _) (⟨_, rfl, rfl, _, _, ⟨hLR, ((LI.held hI sk (Or.inl rfl)).thr sk _).write (k := 8) v5 (by decide) (by omega) (by omega), hq1, hT5, LH.held hH (i := sk) (-1) (Or.inl rfl)⟩, hM⟩) (Nat.le_of_ble_eq_true rfl) (Nat.le_of_ble_eq_true rfl) dL_isTyped_433
  · skip
    refine lv_iload X.1 X.2.1 dL_isTyped_258 (lv_at hl 0 rfl) ?_
    refine lv_if_eq X.1 X.2.1 (tgt := 316) dL_isTyped_260 (by decide) (fun c260 => ?_) (fun c260 => ?_)
    · skip
      have d260 : (decide (cg x 25 sk ≠ 0)) = false := bI_0.mp c260
      refine lv_iconst X.1 X.2.1 (v := 0) dL_isTyped_316 (by decide) ?_
      refine W.widen (k := 0) (n := 0) (show ((0) : Nat) ≤ 0 by omega) (show ((0) : Nat) ≤ 0 by omega) ?_
      exact J317 _ _ _ _ ⟨by first | (rw [d260]; rfl) | (rw [d260, d_nef ((l_gt0 (n := ct x 5 + 1) (by omega) o27).mp c270)]; rfl) | (rw [d260, decide_eq_true (show cg x 27 sk ≠ -1 from fun h => c270 ((l_gt0 (n := ct x 5 + 1) (by omega) o27).mpr h)), d_nef c291]; rfl) | (rw [d260, decide_eq_true (show cg x 27 sk ≠ -1 from fun h => c270 ((l_gt0 (n := ct x 5 + 1) (by omega) o27).mpr h)), decide_eq_true c291, d309]; rfl), hM⟩ hT
    · skip
      have d260 : (decide (cg x 25 sk ≠ 0)) = true := bI_n.mp c260
      refine lv_aload X.1 X.2.1 dL_isTyped_263 (lv_at hl 9 rfl) ?_
      refine lv_iload X.1 X.2.1 dL_isTyped_265 (lv_at hl 1 rfl) ?_
      refine lv_iconst X.1 X.2.1 (v := 3) dL_isTyped_267 (by decide) ?_
      refine lv_iadd X.1 X.2.1 dL_isTyped_268 ?_
      refine mm_top (w := nI (5 * sk + 3)) (nI_add (5 * sk) 3) ?_
      refine ml_ald X hT hM (k := 6) (j := 5 * sk + 3) (by decide) (show 5 * sk + 3 < 60 by omega) dL_isTyped_269 ?_
      refine mm_top (w := cg x 27 sk + 1) (q4) ?_
      refine lv_if_le X.1 X.2.1 (tgt := 316) dL_isTyped_270 (by decide) (fun c270 => ?_) (fun c270 => ?_)
      · skip
        refine lv_iconst X.1 X.2.1 (v := 0) dL_isTyped_316 (by decide) ?_
        refine W.widen (k := 0) (n := 0) (show ((0) : Nat) ≤ 0 by omega) (show ((0) : Nat) ≤ 0 by omega) ?_
        exact J317 _ _ _ _ ⟨by first | (rw [d260]; rfl) | (rw [d260, d_nef ((l_gt0 (n := ct x 5 + 1) (by omega) o27).mp c270)]; rfl) | (rw [d260, decide_eq_true (show cg x 27 sk ≠ -1 from fun h => c270 ((l_gt0 (n := ct x 5 + 1) (by omega) o27).mpr h)), d_nef c291]; rfl) | (rw [d260, decide_eq_true (show cg x 27 sk ≠ -1 from fun h => c270 ((l_gt0 (n := ct x 5 + 1) (by omega) o27).mpr h)), decide_eq_true c291, d309]; rfl), hM⟩ hT
      · skip
        refine lv_aload_n X.1 X.2.1 dL_isTyped_273 rfl (lv_at hl 5 rfl) ?_
        refine lv_iconst X.1 X.2.1 (v := 2) dL_isTyped_274 (by decide) ?_
        refine lv_iload X.1 X.2.1 dL_isTyped_275 (lv_at hl 3 rfl) ?_
        refine lv_imul X.1 X.2.1 dL_isTyped_277 ?_
        refine mm_top (w := nI (2 * p)) (pk_mul 2 p) ?_
        refine ml_ald X hT hM (k := 0) (j := 2 * p) (by decide) (show 2 * p < 10 by omega) dL_isTyped_278 ?_
        refine mm_top (w := cg x 0 p) ((hR.1 p hp5).1) ?_
        refine lv_aload_n X.1 X.2.1 dL_isTyped_279 rfl (lv_at hl 5 rfl) ?_
        refine lv_iconst X.1 X.2.1 (v := 2) dL_isTyped_280 (by decide) ?_
        refine lv_aload X.1 X.2.1 dL_isTyped_281 (lv_at hl 9 rfl) ?_
        refine lv_iload X.1 X.2.1 dL_isTyped_283 (lv_at hl 1 rfl) ?_
        refine ml_ald X hT hM (k := 6) (j := 5 * sk) (by decide) (show 5 * sk < 60 by omega) dL_isTyped_285 ?_
        refine mm_top (w := nI (8 * u + v)) (q1) ?_
        refine lv_bipush X.1 X.2.1 (v := 8) dL_isTyped_286 (by decide) ?_
        refine lv_idiv X.1 X.2.1 dL_isTyped_288 (by decide) ?_
        refine mm_top (w := nI ((8 * u + v) / 8)) (pk_div (a := 8 * u + v) (d := 8) (by omega) (by omega) (by omega)) ?_
        refine mm_top (w := nI u) (congrArg nI (show (8 * u + v) / 8 = u by omega)) ?_
        refine lv_imul X.1 X.2.1 dL_isTyped_289 ?_
        refine mm_top (w := nI (2 * u)) (pk_mul 2 u) ?_
        refine ml_ald X hT hM (k := 0) (j := 2 * u) (by decide) (show 2 * u < 10 by omega) dL_isTyped_290 ?_
        refine mm_top (w := cg x 0 u) ((hR.1 u hu5).1) ?_
        refine lv_icmp_eq X.1 X.2.1 (tgt := 316) dL_isTyped_291 (by decide) (fun c291 => ?_) (fun c291 => ?_)
        · skip
          refine lv_iconst X.1 X.2.1 (v := 0) dL_isTyped_316 (by decide) ?_
          refine W.widen (k := 0) (n := 0) (show ((0) : Nat) ≤ 0 by omega) (show ((0) : Nat) ≤ 0 by omega) ?_
          exact J317 _ _ _ _ ⟨by first | (rw [d260]; rfl) | (rw [d260, d_nef ((l_gt0 (n := ct x 5 + 1) (by omega) o27).mp c270)]; rfl) | (rw [d260, decide_eq_true (show cg x 27 sk ≠ -1 from fun h => c270 ((l_gt0 (n := ct x 5 + 1) (by omega) o27).mpr h)), d_nef c291]; rfl) | (rw [d260, decide_eq_true (show cg x 27 sk ≠ -1 from fun h => c270 ((l_gt0 (n := ct x 5 + 1) (by omega) o27).mpr h)), decide_eq_true c291, d309]; rfl), hM⟩ hT
        · skip
          refine lv_aload_n X.1 X.2.1 dL_isTyped_294 rfl (lv_at hl 5 rfl) ?_
          refine lv_aload_n X.1 X.2.1 dL_isTyped_295 rfl (lv_at hl 6 rfl) ?_
          refine lv_iload X.1 X.2.1 dL_isTyped_296 (lv_at hl 3 rfl) ?_
          refine lv_aload X.1 X.2.1 dL_isTyped_298 (lv_at hl 9 rfl) ?_
          refine lv_iload X.1 X.2.1 dL_isTyped_300 (lv_at hl 1 rfl) ?_
          refine ml_ald X hT hM (k := 6) (j := 5 * sk) (by decide) (show 5 * sk < 60 by omega) dL_isTyped_302 ?_
          refine mm_top (w := nI (8 * u + v)) (q1) ?_
          refine lv_bipush X.1 X.2.1 (v := 8) dL_isTyped_303 (by decide) ?_
          refine lv_irem X.1 X.2.1 dL_isTyped_305 (by decide) ?_
          refine mm_top (w := nI ((8 * u + v) % 8)) (pk_rem (a := 8 * u + v) (d := 8) (by omega) (by omega) (by omega)) ?_
          refine mm_top (w := nI v) (congrArg nI (show (8 * u + v) % 8 = v by omega)) ?_
          refine mr_g X hT (fun hT' => mr_runS X hT' cb_RL_75 kw464 kw465 (As := [.ref (ad 0), .ref (ad 1), .int (nI p), .int (nI v)]) (k_may hfl hM hR hI hV (p := p) (m := v) hp5 hv3) rfl rfl hl.1 ⟨Nat.le_of_ble_eq_true rfl, Nat.le_of_ble_eq_true rfl⟩ (Nat.le_of_ble_eq_true rfl) dL_isTyped_306 ⟨Nat.le_of_ble_eq_true rfl, Nat.le_of_ble_eq_true rfl⟩) (fun v M1 H locs hp hT => ?_)
          obtain ⟨r, rfl, rfl, hM⟩ := hp
          refine W.eq (g2 := F0 zm 309 ls (.int (bI (q_has x (nI p) (nI v))) :: _)) rfl ?_
          refine lv_if_eq X.1 X.2.1 (tgt := 316) dL_isTyped_309 (by decide) (fun c309 => ?_) (fun c309 => ?_)
          · skip
            have d309 : (q_has x (nI p) (nI v)) = false := bI_0.mp c309
            refine lv_iconst X.1 X.2.1 (v := 0) dL_isTyped_316 (by decide) ?_
            refine W.widen (k := 0) (n := 0) (show ((0 + 0) : Nat) ≤ 0 by omega) (show ((0 + 0) : Nat) ≤ 0 by omega) ?_
            exact J317 _ _ _ _ ⟨by first | (rw [d260]; rfl) | (rw [d260, d_nef ((l_gt0 (n := ct x 5 + 1) (by omega) o27).mp c270)]; rfl) | (rw [d260, decide_eq_true (show cg x 27 sk ≠ -1 from fun h => c270 ((l_gt0 (n := ct x 5 + 1) (by omega) o27).mpr h)), d_nef c291]; rfl) | (rw [d260, decide_eq_true (show cg x 27 sk ≠ -1 from fun h => c270 ((l_gt0 (n := ct x 5 + 1) (by omega) o27).mpr h)), decide_eq_true c291, d309]; rfl), hM⟩ hT
          · skip
            have d309 : (q_has x (nI p) (nI v)) = true := bI_n.mp c309
            refine lv_iconst X.1 X.2.1 (v := 1) dL_isTyped_312 (by decide) ?_
            refine lv_goto X.1 X.2.1 (tgt := 317) dL_isTyped_313 (by decide) ?_
            refine W.widen (k := 0) (n := 0) (show ((0 + 0) : Nat) ≤ 0 by omega) (show ((0 + 0) : Nat) ≤ 0 by omega) ?_
            exact J317 _ _ _ _ ⟨by first | (rw [d260]; rfl) | (rw [d260, d_nef ((l_gt0 (n := ct x 5 + 1) (by omega) o27).mp c270)]; rfl) | (rw [d260, decide_eq_true (show cg x 27 sk ≠ -1 from fun h => c270 ((l_gt0 (n := ct x 5 + 1) (by omega) o27).mpr h)), d_nef c291]; rfl) | (rw [d260, decide_eq_true (show cg x 27 sk ≠ -1 from fun h => c270 ((l_gt0 (n := ct x 5 + 1) (by omega) o27).mpr h)), decide_eq_true c291, d309]; rfl), hM⟩ hT
set_option maxHeartbeats 4000000 in
set_option maxRecDepth 100000 in
theorem k_isTyped {l : Launch} (hfl : l.stackTraces = false) {G : mw_G} {o : Nat} {ad : Nat → Nat} {x : s_T} {z : Nat → Nat → Int32} {M : mw_M} {N T wy zz : Nat} (hM : LW G o ad x z M) (hS : LSt N T x z) (hN : N ≤ 500) (hw : wy < 4) (hz : zz < 1000000) : mw_MetK ex_N l G yL_isTyped (.code yL_isTyped cL_isTyped 16 (some .boolean)) rm_L_isTyped [.ref o, .ref (ad 0), .ref (ad 1), .ref (ad 2), .ref (ad 3), .ref (ad 6), .int (nI wy), .int (nI zz)] M (mw_pi (fun r M1 => r = 1 ∧ ∃ (x1 : s_T) (z1 : Nat → Nat → Int32), LSt (N + 1) T x1 z1 ∧ LW G o ad x1 z1 M1)) := by
  refine mw_ofK hfl (by decide) (Nat.le_of_ble_eq_true rfl) ?_
  intro zp ze zs_ zm zb zh zc ls X hin hret hex hT hl
  have hl : lv_has ls 16 [(0, .ref o), (1, .ref (ad 0)), (2, .ref (ad 1)), (3, .ref (ad 2)), (4, .ref (ad 3)), (5, .ref (ad 6)), (6, .int (nI wy)), (7, .int (nI zz))] := hl
  obtain ⟨hR, hI, hq, hT5, hH⟩ := id hS
  have hV := q_inv_mono hq.1 (show N ≤ 512 by omega)
  have hX := q_inv_mono hq.1 (show N ≤ 511 by omega)
  obtain ⟨i2, i4, i10, i17, i22, i29, ilb, ils, ie, is_⟩ := id hI
  obtain ⟨v2, v4, v5⟩ := hV.le
  obtain ⟨sq, hsq, esq⟩ := id ils
  refine lv_iload X.1 X.2.1 dL_isTyped_0 (lv_at hl 7 rfl) ?_
  refine lv_aload_n X.1 X.2.1 dL_isTyped_2 rfl (lv_at hl 3 rfl) ?_
  refine lv_iconst X.1 X.2.1 (v := 0) dL_isTyped_3 (by decide) ?_
  refine ml_ald X hT hM (k := 2) (j := 0) (by decide) (by decide) dL_isTyped_4 ?_
  refine mm_top (w := nI 5) (hR.2.2.1.1.trans (congrArg nI (hI.1))) ?_
  refine lv_irem X.1 X.2.1 dL_isTyped_5 (nI_ne0 (n := 5) (by omega) (by omega)) ?_
  refine mm_top (w := nI (zz % 5)) (pk_rem (a := zz) (d := 5) (by omega) (by omega) (by omega)) ?_
  obtain ⟨p, hp5, ep⟩ : ∃ p, p < 5 ∧ zz % 5 = p := ⟨_, Nat.mod_lt _ (by decide), rfl⟩
  refine mm_top (w := nI p) (congrArg nI ep) ?_
  refine lv_istore X.1 X.2.1 dL_isTyped_6 hl (by decide) rfl (fun ls hl => ?_)
  refine mw_joinN hT 189 (0) (0) (fun M1 => LW G o ad x z M1) (fun M1 H locs hM hT => ?_) (fun J189 => ?_)
  · skip
    refine lv_aload_n X.1 X.2.1 dL_isTyped_189 rfl (lv_at hl 4 rfl) ?_
    refine lv_bipush X.1 X.2.1 (v := 6) dL_isTyped_190 (by decide) ?_
    refine ml_ald X hT hM (k := 2) (j := 6) (by decide) (by decide) dL_isTyped_192 ?_
    refine mm_top (w := nI (ct x 29)) (hR.2.2.1.2.2.2.2.2.2.1) ?_
    refine lv_if_ne X.1 X.2.1 (tgt := 198) dL_isTyped_193 (by decide) (fun c193 => ?_) (fun c193 => ?_)
    · skip
      have e193 : 0 < ct x 29 := Nat.pos_of_ne_zero (fun h => c193 (by rw [h]; rfl))
      refine mw_join hT 226 (0) (0) (fun r M1 => r = nI (l_sk zz (ct x 29)) ∧ LW G o ad x z M1) (fun r M1 H locs hp hT => ?_) (fun J226 => ?_)
      · obtain ⟨rfl, hM⟩ := hp
        obtain ⟨sk, hsk, esk⟩ : ∃ sk, sk < ct x 29 ∧ l_sk zz (ct x 29) = sk := ⟨_, l_sk_lt zz e193, rfl⟩
        rw [esk]
        obtain ⟨⟨u, hu, eu⟩, ⟨v, hv, ev⟩⟩ := hX.se hsk
        obtain ⟨o26, o25, o27⟩ := is_ sk hsk
        obtain ⟨q1, q2, q3, q4, q5⟩ := hR.2.2.2.2.2.2 sk hsk
        rw [eu, ev, l_pr] at q1
        have hu5 : u < 5 := by omega
        have hv3 : v < 3 := by omega
        refine lv_istore X.1 X.2.1 dL_isTyped_226 hl (by decide) rfl (fun ls hl => ?_)
        refine lv_iconst X.1 X.2.1 (v := 5) dL_isTyped_228 (by decide) ?_
        refine lv_iload X.1 X.2.1 dL_isTyped_229 (lv_at hl 0 rfl) ?_
        refine lv_imul X.1 X.2.1 dL_isTyped_231 ?_
        refine mm_top (w := nI (5 * sk)) (pk_mul 5 sk) ?_
        refine lv_istore X.1 X.2.1 dL_isTyped_232 hl (by decide) rfl (fun ls hl => ?_)
        refine mw_join hT 250 (0) (0) (fun r M1 => r = bI (decide (cg x 25 sk ≠ 0)) ∧ LW G o ad x z M1) (fun r M1 H locs hp hT => ?_) (fun J250 => ?_)
        · obtain ⟨rfl, hM⟩ := hp
          refine lv_istore X.1 X.2.1 dL_isTyped_250 hl (by decide) rfl (fun ls hl => ?_)
          refine lv_iload X.1 X.2.1 dL_isTyped_252 (lv_at hl 10 rfl) ?_
          refine lv_iconst X.1 X.2.1 (v := 1) dL_isTyped_254 (by decide) ?_
          refine lv_icmp_ne X.1 X.2.1 (tgt := 434) dL_isTyped_255 (by decide) (fun c255 => ?_) (fun c255 => ?_)
          · skip
            exact k_isTyped_2 hfl X hret hex hT hM hl hS hN hz hp5 hsk
          · skip
            exact k_isTyped_1 hfl X hret hex hT hM hl hS hN hz hp5 hsk
        · skip
          refine lv_aload X.1 X.2.1 dL_isTyped_234 (lv_at hl 8 rfl) ?_
          refine lv_iload X.1 X.2.1 dL_isTyped_236 (lv_at hl 0 rfl) ?_
          refine lv_iconst X.1 X.2.1 (v := 1) dL_isTyped_238 (by decide) ?_
          refine lv_iadd X.1 X.2.1 dL_isTyped_239 ?_
          refine mm_top (w := nI (5 * sk + 1)) (nI_add (5 * sk) 1) ?_
          refine ml_ald X hT hM (k := 6) (j := 5 * sk + 1) (by decide) (show 5 * sk + 1 < 60 by omega) dL_isTyped_240 ?_
          refine mm_top (w := cg x 25 sk) (q2) ?_
          refine lv_iconst X.1 X.2.1 (v := 1) dL_isTyped_241 (by decide) ?_
          refine lv_icmp_ne X.1 X.2.1 (tgt := 249) dL_isTyped_242 (by decide) (fun c242 => ?_) (fun c242 => ?_)
          · skip
            refine lv_iconst X.1 X.2.1 (v := 0) dL_isTyped_249 (by decide) ?_
            refine W.widen (k := 0) (n := 0) (show ((0) : Nat) ≤ 0 by omega) (show ((0) : Nat) ≤ 0 by omega) ?_
            exact J250 _ _ _ _ ⟨by rcases o25 with h | h <;> simp [h, bI] at c242 ⊢, hM⟩ hT
          · skip
            refine lv_iconst X.1 X.2.1 (v := 1) dL_isTyped_245 (by decide) ?_
            refine lv_goto X.1 X.2.1 (tgt := 250) dL_isTyped_246 (by decide) ?_
            refine W.widen (k := 0) (n := 0) (show ((0) : Nat) ≤ 0 by omega) (show ((0) : Nat) ≤ 0 by omega) ?_
            exact J250 _ _ _ _ ⟨by rcases o25 with h | h <;> simp [h, bI] at c242 ⊢, hM⟩ hT
      · skip
        refine lv_iload X.1 X.2.1 dL_isTyped_198 (lv_at hl 8 rfl) ?_
        refine lv_iconst X.1 X.2.1 (v := 5) dL_isTyped_200 (by decide) ?_
        refine lv_idiv X.1 X.2.1 dL_isTyped_201 (by decide) ?_
        refine mm_top (w := nI (zz / 5)) (pk_div (a := zz) (d := 5) (by omega) (by omega) (by omega)) ?_
        refine lv_iconst X.1 X.2.1 (v := 3) dL_isTyped_202 (by decide) ?_
        refine lv_irem X.1 X.2.1 dL_isTyped_203 (by decide) ?_
        refine mm_top (w := nI ((zz / 5) % 3)) (pk_rem (a := zz / 5) (d := 3) (by omega) (by omega) (by omega)) ?_
        refine lv_if_le X.1 X.2.1 (tgt := 216) dL_isTyped_204 (by decide) (fun c204 => ?_) (fun c204 => ?_)
        · skip
          have e204 : ¬ 0 < zz / 5 % 3 := fun h => absurd c204 (nI_nle h (by omega))
          refine lv_iload X.1 X.2.1 dL_isTyped_216 (lv_at hl 8 rfl) ?_
          refine lv_bipush X.1 X.2.1 (v := 15) dL_isTyped_218 (by decide) ?_
          refine lv_idiv X.1 X.2.1 dL_isTyped_220 (by decide) ?_
          refine mm_top (w := nI (zz / 15)) (pk_div (a := zz) (d := 15) (by omega) (by omega) (by omega)) ?_
          refine lv_aload_n X.1 X.2.1 dL_isTyped_221 rfl (lv_at hl 4 rfl) ?_
          refine lv_bipush X.1 X.2.1 (v := 6) dL_isTyped_222 (by decide) ?_
          refine ml_ald X hT hM (k := 2) (j := 6) (by decide) (by decide) dL_isTyped_224 ?_
          refine mm_top (w := nI (ct x 29)) (hR.2.2.1.2.2.2.2.2.2.1) ?_
          refine lv_irem X.1 X.2.1 dL_isTyped_225 (nI_ne0 (n := ct x 29) (by omega) (by omega)) ?_
          refine mm_top (w := nI ((zz / 15) % (ct x 29))) (pk_rem (a := zz / 15) (d := ct x 29) (by omega) (by omega) (by omega)) ?_
          refine W.widen (k := 0) (n := 0) (show ((0) : Nat) ≤ 0 by omega) (show ((0) : Nat) ≤ 0 by omega) ?_
          exact J226 _ _ _ _ ⟨by first | exact congrArg nI (show ct x 29 - 1 = l_sk zz (ct x 29) by rw [l_sk, if_pos e204]) | exact congrArg nI (show zz / 15 % ct x 29 = l_sk zz (ct x 29) by rw [l_sk, if_neg e204]), hM⟩ hT
        · skip
          have e204 : 0 < zz / 5 % 3 := Nat.pos_of_ne_zero (fun h => c204 (by rw [h]; decide))
          refine lv_aload_n X.1 X.2.1 dL_isTyped_207 rfl (lv_at hl 4 rfl) ?_
          refine lv_bipush X.1 X.2.1 (v := 6) dL_isTyped_208 (by decide) ?_
          refine ml_ald X hT hM (k := 2) (j := 6) (by decide) (by decide) dL_isTyped_210 ?_
          refine mm_top (w := nI (ct x 29)) (hR.2.2.1.2.2.2.2.2.2.1) ?_
          refine lv_iconst X.1 X.2.1 (v := 1) dL_isTyped_211 (by decide) ?_
          refine lv_isub X.1 X.2.1 dL_isTyped_212 ?_
          refine mm_top (w := nI (ct x 29 - 1)) (pk_sub (a := ct x 29) (b := 1) (by omega)) ?_
          refine lv_goto X.1 X.2.1 (tgt := 226) dL_isTyped_213 (by decide) ?_
          refine W.widen (k := 0) (n := 0) (show ((0) : Nat) ≤ 0 by omega) (show ((0) : Nat) ≤ 0 by omega) ?_
          exact J226 _ _ _ _ ⟨by first | exact congrArg nI (show ct x 29 - 1 = l_sk zz (ct x 29) by rw [l_sk, if_pos e204]) | exact congrArg nI (show zz / 15 % ct x 29 = l_sk zz (ct x 29) by rw [l_sk, if_neg e204]), hM⟩ hT
    · skip
      refine lv_iconst X.1 X.2.1 (v := 1) dL_isTyped_196 (by decide) ?_
      exact mr_zret X hT hret (by first | rfl | decide | exact bI_nar _) (⟨_, rfl, rfl, _, _, ⟨hR, hI, st_same hq, hT5, hH⟩, hM⟩) (Nat.le_of_ble_eq_true rfl) (Nat.le_of_ble_eq_true rfl) dL_isTyped_197
  · skip
    refine lv_iload X.1 X.2.1 dL_isTyped_8 (lv_at hl 7 rfl) ?_
    refine lv_if_ne X.1 X.2.1 (tgt := 189) dL_isTyped_10 (by decide) (fun c10 => ?_) (fun c10 => ?_)
    · skip
      have e10 : ¬ wy = 0 := fun h => c10 (by rw [h]; rfl)
      refine W.widen (k := 0) (n := 0) (show ((0) : Nat) ≤ 0 by omega) (show ((0) : Nat) ≤ 0 by omega) ?_
      exact J189 _ _ _ hM hT
    · skip
      have e10 : wy = 0 := (nI_eq (a := wy) (b := 0) (by omega) (by omega)).mp c10
      refine lv_aload_n X.1 X.2.1 dL_isTyped_13 rfl (lv_at hl 4 rfl) ?_
      refine lv_bipush X.1 X.2.1 (v := 6) dL_isTyped_14 (by decide) ?_
      refine ml_ald X hT hM (k := 2) (j := 6) (by decide) (by decide) dL_isTyped_16 ?_
      refine mm_top (w := nI (ct x 29)) (hR.2.2.1.2.2.2.2.2.2.1) ?_
      refine lv_bipush X.1 X.2.1 (v := 12) dL_isTyped_17 (by decide) ?_
      refine lv_icmp_ge X.1 X.2.1 (tgt := 189) dL_isTyped_19 (by decide) (fun c19 => ?_) (fun c19 => ?_)
      · skip
        refine W.widen (k := 0) (n := 0) (show ((0) : Nat) ≤ 0 by omega) (show ((0) : Nat) ≤ 0 by omega) ?_
        exact J189 _ _ _ hM hT
      · skip
        have e19 : ct x 29 < 12 := Nat.lt_of_not_le (fun h => c19 ((nI_leI (a := 12) (by omega) (by omega)).mpr h))
        refine lv_iload X.1 X.2.1 dL_isTyped_22 (lv_at hl 8 rfl) ?_
        refine lv_iconst X.1 X.2.1 (v := 5) dL_isTyped_24 (by decide) ?_
        refine lv_idiv X.1 X.2.1 dL_isTyped_25 (by decide) ?_
        refine mm_top (w := nI (zz / 5)) (pk_div (a := zz) (d := 5) (by omega) (by omega) (by omega)) ?_
        refine lv_aload_n X.1 X.2.1 dL_isTyped_26 rfl (lv_at hl 4 rfl) ?_
        refine lv_iconst X.1 X.2.1 (v := 1) dL_isTyped_27 (by decide) ?_
        refine ml_ald X hT hM (k := 2) (j := 1) (by decide) (by decide) dL_isTyped_28 ?_
        refine mm_top (w := nI 3) (hR.2.2.1.2.1.trans (congrArg nI (hI.2.1))) ?_
        refine lv_irem X.1 X.2.1 dL_isTyped_29 (nI_ne0 (n := 3) (by omega) (by omega)) ?_
        refine mm_top (w := nI ((zz / 5) % 3)) (pk_rem (a := zz / 5) (d := 3) (by omega) (by omega) (by omega)) ?_
        obtain ⟨q, hq3, eq_⟩ : ∃ q, q < 3 ∧ zz / 5 % 3 = q := ⟨_, Nat.mod_lt _ (by decide), rfl⟩
        refine mm_top (w := nI q) (congrArg nI eq_) ?_
        refine lv_istore X.1 X.2.1 dL_isTyped_30 hl (by decide) rfl (fun ls hl => ?_)
        refine lv_aload X.1 X.2.1 dL_isTyped_32 (lv_at hl 6 rfl) ?_
        refine lv_aload_n X.1 X.2.1 dL_isTyped_34 rfl (lv_at hl 5 rfl) ?_
        refine lv_bipush X.1 X.2.1 (v := 8) dL_isTyped_35 (by decide) ?_
        refine lv_iload X.1 X.2.1 dL_isTyped_37 (lv_at hl 1 rfl) ?_
        refine lv_imul X.1 X.2.1 dL_isTyped_39 ?_
        refine mm_top (w := nI (8 * p)) (pk_mul 8 p) ?_
        refine lv_iload X.1 X.2.1 dL_isTyped_40 (lv_at hl 0 rfl) ?_
        refine lv_iadd X.1 X.2.1 dL_isTyped_42 ?_
        refine mm_top (w := nI (8 * p + q)) (nI_add (8 * p) q) ?_
        refine lv_aload_n X.1 X.2.1 dL_isTyped_43 rfl (lv_at hl 5 rfl) ?_
        refine lv_iconst X.1 X.2.1 (v := 2) dL_isTyped_44 (by decide) ?_
        refine ml_ald X hT hM (k := 2) (j := 2) (by decide) (by decide) dL_isTyped_45 ?_
        refine mm_top (w := nI (ct x 5)) (hR.2.2.1.2.2.1) ?_
        refine mr_g X hT (fun hT' => mr_runS X hT' cb_RL_32 kw408 kw409 (As := [.ref (ad 3), .ref (ad 2), .int (nI (8 * p + q)), .int (nI (ct x 5))]) (k_holdsAt hfl hM hR hI.2.2.1 hV (u := p) (v := q) (t := nI (ct x 5)) (by omega) (by omega)) rfl rfl hl.1 ⟨Nat.le_of_ble_eq_true rfl, Nat.le_of_ble_eq_true rfl⟩ (Nat.le_of_ble_eq_true rfl) dL_isTyped_46 ⟨Nat.le_of_ble_eq_true rfl, Nat.le_of_ble_eq_true rfl⟩) (fun v M1 H locs hp hT => ?_)
        obtain ⟨r, rfl, rfl, hM⟩ := hp
        refine W.eq (g2 := F0 zm 49 ls (.int (bI (q_hold x (nI p) (nI q) (nI (ct x 5)) (ct x 10))) :: _)) rfl ?_
        refine lv_istore X.1 X.2.1 dL_isTyped_49 hl (by decide) rfl (fun ls hl => ?_)
        refine lv_iload X.1 X.2.1 dL_isTyped_51 (lv_at hl 0 rfl) ?_
        refine lv_if_ne X.1 X.2.1 (tgt := 75) dL_isTyped_53 (by decide) (fun c53 => ?_) (fun c53 => ?_)
        · skip
          have d53 : (q_hold x (nI p) (nI q) (nI (ct x 5)) (ct x 10)) = true := bI_n.mp c53
          refine lv_aload X.1 X.2.1 dL_isTyped_75 (lv_at hl 8 rfl) ?_
          refine lv_iconst X.1 X.2.1 (v := 5) dL_isTyped_77 (by decide) ?_
          refine lv_aload_n X.1 X.2.1 dL_isTyped_78 rfl (lv_at hl 6 rfl) ?_
          refine lv_bipush X.1 X.2.1 (v := 6) dL_isTyped_79 (by decide) ?_
          refine ml_ald X hT hM (k := 2) (j := 6) (by decide) (by decide) dL_isTyped_81 ?_
          refine mm_top (w := nI (ct x 29)) (hR.2.2.1.2.2.2.2.2.2.1) ?_
          refine lv_imul X.1 X.2.1 dL_isTyped_82 ?_
          refine mm_top (w := nI (5 * (ct x 29))) (pk_mul 5 (ct x 29)) ?_
          refine lv_bipush X.1 X.2.1 (v := 8) dL_isTyped_83 (by decide) ?_
          refine lv_iload X.1 X.2.1 dL_isTyped_85 (lv_at hl 2 rfl) ?_
          refine lv_imul X.1 X.2.1 dL_isTyped_87 ?_
          refine mm_top (w := nI (8 * p)) (pk_mul 8 p) ?_
          refine lv_iload X.1 X.2.1 dL_isTyped_88 (lv_at hl 1 rfl) ?_
          refine lv_iadd X.1 X.2.1 dL_isTyped_90 ?_
          refine mm_top (w := nI (8 * p + q)) (nI_add (8 * p) q) ?_
          refine ml_ast X hT hM (k := 6) (j := 5 * (ct x 29)) (by decide) (show 5 * (ct x 29) < 60 by omega) dL_isTyped_91 (fun M1 H locs hM hT => ?_)
          refine lv_aload X.1 X.2.1 dL_isTyped_92 (lv_at hl 8 rfl) ?_
          refine lv_iconst X.1 X.2.1 (v := 5) dL_isTyped_94 (by decide) ?_
          refine lv_aload_n X.1 X.2.1 dL_isTyped_95 rfl (lv_at hl 6 rfl) ?_
          refine lv_bipush X.1 X.2.1 (v := 6) dL_isTyped_96 (by decide) ?_
          refine ml_ald X hT hM (k := 2) (j := 6) (by decide) (by decide) dL_isTyped_98 ?_
          refine mm_top (w := nI (ct x 29)) (by rw [zs_get, if_neg (by decide)]; exact hR.2.2.1.2.2.2.2.2.2.1) ?_
          refine lv_imul X.1 X.2.1 dL_isTyped_99 ?_
          refine mm_top (w := nI (5 * (ct x 29))) (pk_mul 5 (ct x 29)) ?_
          refine lv_iconst X.1 X.2.1 (v := 1) dL_isTyped_100 (by decide) ?_
          refine lv_iadd X.1 X.2.1 dL_isTyped_101 ?_
          refine mm_top (w := nI (5 * (ct x 29) + 1)) (nI_add (5 * (ct x 29)) 1) ?_
          refine lv_iconst X.1 X.2.1 (v := 1) dL_isTyped_102 (by decide) ?_
          refine ml_ast X hT hM (k := 6) (j := 5 * (ct x 29) + 1) (by decide) (show 5 * (ct x 29) + 1 < 60 by omega) dL_isTyped_103 (fun M1 H locs hM hT => ?_)
          refine lv_aload X.1 X.2.1 dL_isTyped_104 (lv_at hl 8 rfl) ?_
          refine lv_iconst X.1 X.2.1 (v := 5) dL_isTyped_106 (by decide) ?_
          refine lv_aload_n X.1 X.2.1 dL_isTyped_107 rfl (lv_at hl 6 rfl) ?_
          refine lv_bipush X.1 X.2.1 (v := 6) dL_isTyped_108 (by decide) ?_
          refine ml_ald X hT hM (k := 2) (j := 6) (by decide) (by decide) dL_isTyped_110 ?_
          refine mm_top (w := nI (ct x 29)) (by rw [zs_get, if_neg (by decide), zs_get, if_neg (by decide)]; exact hR.2.2.1.2.2.2.2.2.2.1) ?_
          refine lv_imul X.1 X.2.1 dL_isTyped_111 ?_
          refine mm_top (w := nI (5 * (ct x 29))) (pk_mul 5 (ct x 29)) ?_
          refine lv_iconst X.1 X.2.1 (v := 2) dL_isTyped_112 (by decide) ?_
          refine lv_iadd X.1 X.2.1 dL_isTyped_113 ?_
          refine mm_top (w := nI (5 * (ct x 29) + 2)) (nI_add (5 * (ct x 29)) 2) ?_
          refine lv_aload_n X.1 X.2.1 dL_isTyped_114 rfl (lv_at hl 6 rfl) ?_
          refine lv_iconst X.1 X.2.1 (v := 2) dL_isTyped_115 (by decide) ?_
          refine ml_ald X hT hM (k := 2) (j := 2) (by decide) (by decide) dL_isTyped_116 ?_
          refine mm_top (w := nI (ct x 5)) (by rw [zs_get, if_neg (by decide), zs_get, if_neg (by decide)]; exact hR.2.2.1.2.2.1) ?_
          refine ml_ast X hT hM (k := 6) (j := 5 * (ct x 29) + 2) (by decide) (show 5 * (ct x 29) + 2 < 60 by omega) dL_isTyped_117 (fun M1 H locs hM hT => ?_)
          refine lv_aload X.1 X.2.1 dL_isTyped_118 (lv_at hl 8 rfl) ?_
          refine lv_iconst X.1 X.2.1 (v := 5) dL_isTyped_120 (by decide) ?_
          refine lv_aload_n X.1 X.2.1 dL_isTyped_121 rfl (lv_at hl 6 rfl) ?_
          refine lv_bipush X.1 X.2.1 (v := 6) dL_isTyped_122 (by decide) ?_
          refine ml_ald X hT hM (k := 2) (j := 6) (by decide) (by decide) dL_isTyped_124 ?_
          refine mm_top (w := nI (ct x 29)) (by rw [zs_get, if_neg (by decide), zs_get, if_neg (by decide), zs_get, if_neg (by decide)]; exact hR.2.2.1.2.2.2.2.2.2.1) ?_
          refine lv_imul X.1 X.2.1 dL_isTyped_125 ?_
          refine mm_top (w := nI (5 * (ct x 29))) (pk_mul 5 (ct x 29)) ?_
          refine lv_iconst X.1 X.2.1 (v := 3) dL_isTyped_126 (by decide) ?_
          refine lv_iadd X.1 X.2.1 dL_isTyped_127 ?_
          refine mm_top (w := nI (5 * (ct x 29) + 3)) (nI_add (5 * (ct x 29)) 3) ?_
          refine lv_iconst X.1 X.2.1 (v := 0) dL_isTyped_128 (by decide) ?_
          refine ml_ast X hT hM (k := 6) (j := 5 * (ct x 29) + 3) (by decide) (show 5 * (ct x 29) + 3 < 60 by omega) dL_isTyped_129 (fun M1 H locs hM hT => ?_)
          refine lv_aload X.1 X.2.1 dL_isTyped_130 (lv_at hl 8 rfl) ?_
          refine lv_iconst X.1 X.2.1 (v := 5) dL_isTyped_132 (by decide) ?_
          refine lv_aload_n X.1 X.2.1 dL_isTyped_133 rfl (lv_at hl 6 rfl) ?_
          refine lv_bipush X.1 X.2.1 (v := 6) dL_isTyped_134 (by decide) ?_
          refine ml_ald X hT hM (k := 2) (j := 6) (by decide) (by decide) dL_isTyped_136 ?_
          refine mm_top (w := nI (ct x 29)) (by rw [zs_get, if_neg (by decide), zs_get, if_neg (by decide), zs_get, if_neg (by decide), zs_get, if_neg (by decide)]; exact hR.2.2.1.2.2.2.2.2.2.1) ?_
          refine lv_imul X.1 X.2.1 dL_isTyped_137 ?_
          refine mm_top (w := nI (5 * (ct x 29))) (pk_mul 5 (ct x 29)) ?_
          refine lv_iconst X.1 X.2.1 (v := 4) dL_isTyped_138 (by decide) ?_
          refine lv_iadd X.1 X.2.1 dL_isTyped_139 ?_
          refine mm_top (w := nI (5 * (ct x 29) + 4)) (nI_add (5 * (ct x 29)) 4) ?_
          refine lv_iconst X.1 X.2.1 (v := 0) dL_isTyped_140 (by decide) ?_
          refine ml_ast X hT hM (k := 6) (j := 5 * (ct x 29) + 4) (by decide) (show 5 * (ct x 29) + 4 < 60 by omega) dL_isTyped_141 (fun M1 H locs hM hT => ?_)
          refine lv_aload_n X.1 X.2.1 dL_isTyped_142 rfl (lv_at hl 6 rfl) ?_
          refine lv_bipush X.1 X.2.1 (v := 6) dL_isTyped_143 (by decide) ?_
          refine lv_dup2_11 X.1 X.2.1 dL_isTyped_145 rfl rfl ?_
          refine ml_ald X hT hM (k := 2) (j := 6) (by decide) (by decide) dL_isTyped_146 ?_
          refine mm_top (w := nI (ct x 29)) (by rw [zs_get, if_neg (by decide), zs_get, if_neg (by decide), zs_get, if_neg (by decide), zs_get, if_neg (by decide), zs_get, if_neg (by decide)]; exact hR.2.2.1.2.2.2.2.2.2.1) ?_
          refine lv_iconst X.1 X.2.1 (v := 1) dL_isTyped_147 (by decide) ?_
          refine lv_iadd X.1 X.2.1 dL_isTyped_148 ?_
          refine mm_top (w := nI (ct x 29 + 1)) (nI_add (ct x 29) 1) ?_
          refine ml_ast X hT hM (k := 2) (j := 6) (by decide) (by decide) dL_isTyped_149 (fun M1 H locs hM hT => ?_)
          refine lv_aload_n X.1 X.2.1 dL_isTyped_150 rfl (lv_at hl 3 rfl) ?_
          refine lv_iload X.1 X.2.1 dL_isTyped_151 (lv_at hl 2 rfl) ?_
          refine lv_iload X.1 X.2.1 dL_isTyped_153 (lv_at hl 1 rfl) ?_
          have hk2 := l_c2 (l_opnc hI hp5 hq3)
          refine mr_gX X hT (fun hT' => mr_runSN X hex hT' cb_RL_103 kw628 kw629 (As := [.ref o, .int (nI p), .int (nI q)]) (k_opened hfl hM hX hk2.1) rfl rfl hl.1 ⟨Nat.le_of_ble_eq_true rfl, Nat.le_of_ble_eq_true rfl⟩ (Nat.le_of_ble_eq_true rfl) dL_isTyped_155 ⟨Nat.le_of_ble_eq_true rfl, Nat.le_of_ble_eq_true rfl⟩) (fun E ce9 q9 H locs hp hT h1 h2 h3 => absurd hp id) (fun v M1 H locs hp hT => ?_)
          obtain ⟨r, rfl, hr, hM⟩ := hp
          rw [if_pos (hk2.2.1 d53)] at hr hM
          subst hr
          refine W.eq (g2 := F0 zm 158 ls (.int (nI (ct x 29)) :: _)) rfl ?_
          have hq1 := st_open hq (hk2.2.1 d53)
          have hX1 := q_inv_mono hq1.1 (show N + 1 ≤ 511 by omega)
          have hz28 := hq.1.2.2.2.2.2.2.2.1 (ct x 29) (Nat.le_refl _)
          refine lv_aload_n X.1 X.2.1 dL_isTyped_158 rfl (lv_at hl 6 rfl) ?_
          refine lv_bipush X.1 X.2.1 (v := 6) dL_isTyped_159 (by decide) ?_
          refine ml_ald X hT hM (k := 2) (j := 6) (by decide) (by decide) dL_isTyped_161 ?_
          refine mm_top (w := nI (ct x 29 + 1)) (by rw [zs_get, if_pos rfl, if_pos rfl]) ?_
          refine lv_iconst X.1 X.2.1 (v := 1) dL_isTyped_162 (by decide) ?_
          refine lv_isub X.1 X.2.1 dL_isTyped_163 ?_
          refine mm_top (w := nI (ct x 29)) (nI_pred (ct x 29)) ?_
          refine lv_icmp_ne X.1 X.2.1 (tgt := 187) dL_isTyped_164 (by decide) (fun c164 => absurd c164 (fun h => h rfl)) (fun c164 => ?_)
          refine lv_aload_n X.1 X.2.1 dL_isTyped_167 rfl (lv_at hl 3 rfl) ?_
          refine lv_aload_n X.1 X.2.1 dL_isTyped_168 rfl (lv_at hl 6 rfl) ?_
          refine lv_iconst X.1 X.2.1 (v := 5) dL_isTyped_169 (by decide) ?_
          refine lv_iload X.1 X.2.1 dL_isTyped_170 (lv_at hl 2 rfl) ?_
          refine lv_iload X.1 X.2.1 dL_isTyped_172 (lv_at hl 1 rfl) ?_
          refine lv_aload_n X.1 X.2.1 dL_isTyped_174 rfl (lv_at hl 6 rfl) ?_
          refine lv_iconst X.1 X.2.1 (v := 2) dL_isTyped_175 (by decide) ?_
          refine ml_ald X hT hM (k := 2) (j := 2) (by decide) (by decide) dL_isTyped_176 ?_
          refine mm_top (w := nI (ct x 5)) (by rw [zs_get, if_pos rfl, if_neg (by omega), zs_get, if_neg (by decide), zs_get, if_neg (by decide), zs_get, if_neg (by decide), zs_get, if_neg (by decide), zs_get, if_neg (by decide)]; exact hR.2.2.1.2.2.1) ?_
          have hx1 : q_ext (q_write (ss (cs (cs (cs (cs (cs x 23 (ct x 29) (nI p)) 24 (ct x 29) (nI q)) 25 (ct x 29) 1) 26 (ct x 29) (q_now x)) 27 (ct x 29) (-1)) 29 (ct x 29 + 1)) 5 (nI p) (nI q)) (f_open_s x (nI p) (nI q)) := q_ext.rf _
          obtain ⟨g1, g2, g3⟩ := q_ext_at hx1
          have eS : q_seal x 5 (nI p) (nI q) = nI ((31 * sq + 5 + 10 * p + 200 * q + 2000 * ct x 5) % 1000003) := q_seal_nI (k := 5) esq hsq (by decide) (by omega) (by omega) (by omega)
          have g3 : cg (f_open_s x (nI p) (nI q)) 31 (ct x 32) = nI ((31 * sq + 5 + 10 * p + 200 * q + 2000 * ct x 5) % 1000003) := g3.trans eS
          have hLR := (LR.open0 (p := p) (m := q) hR hz28).write 5 (nI p) (nI q)
          rw [show q_seal (ss (cs (cs (cs (cs (cs x 23 (ct x 29) (nI p)) 24 (ct x 29) (nI q)) 25 (ct x 29) 1) 26 (ct x 29) (q_now x)) 27 (ct x 29) (-1)) 29 (ct x 29 + 1)) 5 (nI p) (nI q) = nI ((31 * sq + 5 + 10 * p + 200 * q + 2000 * ct x 5) % 1000003) from eS] at hLR
          refine mr_g X hT (fun hT' => mr_runS X hT' cb_RL_38 kw418 kw419 (As := [.ref o, .ref (ad 2), .int 5, .int (nI p), .int (nI q), .int (nI (ct x 5))]) (k_isStep hfl hM hX1 (s := sq) (n := ct x 32) (kd := 5) (p := p) (m := q) (tt := ct x 5) (by rw [zs_get, if_pos rfl, if_neg (by omega), zs_get, if_neg (by decide), zs_get, if_neg (by decide), zs_get, if_neg (by decide), zs_get, if_neg (by decide), zs_get, if_neg (by decide)]; exact (hR.2.2.1.2.2.2.2.2.2.2.2).trans esq) hsq (by rw [zs_get, if_pos rfl, if_neg (by omega), zs_get, if_neg (by decide), zs_get, if_neg (by decide), zs_get, if_neg (by decide), zs_get, if_neg (by decide), zs_get, if_neg (by decide)]; exact hR.2.2.1.2.2.2.2.2.2.2.1) (by decide) (by omega) (by omega) (by omega) g1 g2 g3) rfl rfl hl.1 ⟨Nat.le_of_ble_eq_true rfl, Nat.le_of_ble_eq_true rfl⟩ (Nat.le_of_ble_eq_true rfl) dL_isTyped_177 ⟨Nat.le_of_ble_eq_true rfl, Nat.le_of_ble_eq_true rfl⟩) (fun v M1 H locs hp hT => ?_)
          obtain ⟨r, rfl, rfl, hM⟩ := hp
          refine W.eq (g2 := F0 zm 180 ls (.int 1 :: _)) rfl ?_
          refine lv_if_eq X.1 X.2.1 (tgt := 187) dL_isTyped_180 (by decide) (fun c180 => absurd c180 (by decide)) (fun _ => ?_)
          refine lv_iconst X.1 X.2.1 (v := 1) dL_isTyped_183 (by decide) ?_
          refine lv_goto X.1 X.2.1 (tgt := 188) dL_isTyped_184 (by decide) ?_
          exact mr_zret X hT hret (by first | rfl | decide | exact bI_nar _) (⟨_, rfl, rfl, _, _, ⟨hLR, (LI.open0 (p := p) (m := q) hI e19).write (k := 5) v5 (by decide) (by omega) (by omega), hq1, hT5, LH.open0 (p := p) (m := q) hH⟩, hM⟩) (Nat.le_of_ble_eq_true rfl) (Nat.le_of_ble_eq_true rfl) dL_isTyped_188
        · skip
          have d53 : (q_hold x (nI p) (nI q) (nI (ct x 5)) (ct x 10)) = false := bI_0.mp c53
          refine lv_aload_n X.1 X.2.1 dL_isTyped_56 rfl (lv_at hl 3 rfl) ?_
          refine lv_iload X.1 X.2.1 dL_isTyped_57 (lv_at hl 2 rfl) ?_
          refine lv_iload X.1 X.2.1 dL_isTyped_59 (lv_at hl 1 rfl) ?_
          have hk2 := l_c2 (l_opnc hI hp5 hq3)
          refine mr_gX X hT (fun hT' => mr_runSN X hex hT' cb_RL_103 kw628 kw629 (As := [.ref o, .int (nI p), .int (nI q)]) (k_opened hfl hM hX hk2.1) rfl rfl hl.1 ⟨Nat.le_of_ble_eq_true rfl, Nat.le_of_ble_eq_true rfl⟩ (Nat.le_of_ble_eq_true rfl) dL_isTyped_61 ⟨Nat.le_of_ble_eq_true rfl, Nat.le_of_ble_eq_true rfl⟩) (fun E ce9 q9 H locs hp hT h1 h2 h3 => absurd hp id) (fun v M1 H locs hp hT => ?_)
          obtain ⟨r, rfl, hr, hM⟩ := hp
          rw [if_neg (hk2.2.2 d53)] at hr hM
          subst hr
          refine W.eq (g2 := F0 zm 64 ls (.int ((-2)) :: _)) rfl ?_
          refine lv_bipush X.1 X.2.1 (v := -2) dL_isTyped_64 (by decide) ?_
          refine lv_icmp_ne X.1 X.2.1 (tgt := 73) dL_isTyped_66 (by decide) (fun c66 => absurd (by decide) c66) (fun _ => ?_)
          refine lv_iconst X.1 X.2.1 (v := 1) dL_isTyped_69 (by decide) ?_
          refine lv_goto X.1 X.2.1 (tgt := 74) dL_isTyped_70 (by decide) ?_
          exact mr_zret X hT hret (by first | rfl | decide | exact bI_nar _) (⟨_, rfl, rfl, _, _, ⟨hR, hI, st_same hq, hT5, hH⟩, hM⟩) (Nat.le_of_ble_eq_true rfl) (Nat.le_of_ble_eq_true rfl) dL_isTyped_74
