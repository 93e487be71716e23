abbrev rm_L_isAsked : Room := { frames := 9, cells := 7, slots := 2626, locals := 276 }
set_option maxHeartbeats 4000000 in
set_option maxRecDepth 100000 in
theorem k_isAsked {l : Launch} (hfl : l.stackTraces = false) {G : mw_G} {o : Nat} {ad : Nat → Nat} {x : s_T} {z : Nat → Nat → Int32} {M : mw_M} {N T wy zz : Nat} (hM : LW G o ad x z M) (hS : LSt N T x z) (hN : N ≤ 500) (hw : wy < 5) (hz : zz < 1000000) : mw_MetK ex_N l G yL_isAsked (.code yL_isAsked cL_isAsked 16 (some .boolean)) rm_L_isAsked [.ref o, .ref (ad 0), .ref (ad 1), .ref (ad 2), .ref (ad 3), .ref (ad 4), .ref (ad 5), .int (nI wy), .int (nI zz)] M (mw_pi (fun r M1 => r = 1 ∧ ∃ (x1 : s_T) (z1 : Nat → Nat → Int32), LSt (N + 1) T x1 z1 ∧ LW G o ad x1 z1 M1)) := by
  refine mw_ofK hfl (by decide) (Nat.le_of_ble_eq_true rfl) ?_
  intro zp ze zs_ zm zb zh zc ls X hin hret hex hT hl
  have hl : lv_has ls 16 [(0, .ref o), (1, .ref (ad 0)), (2, .ref (ad 1)), (3, .ref (ad 2)), (4, .ref (ad 3)), (5, .ref (ad 4)), (6, .ref (ad 5)), (7, .int (nI wy)), (8, .int (nI zz))] := hl
  obtain ⟨hR, hI, hq, hT5, hH⟩ := id hS
  have hV := q_inv_mono hq.1 (show N ≤ 512 by omega)
  have hX := q_inv_mono hq.1 (show N ≤ 511 by omega)
  obtain ⟨i2, i4, i10, i17, i22, i29, ilb, ils, ie, is_⟩ := id hI
  obtain ⟨v2, v4, v5⟩ := hV.le
  obtain ⟨sq, hsq, esq⟩ := id ils
  refine lv_iload X.1 X.2.1 dL_isAsked_0 (lv_at hl 8 rfl) ?_
  refine lv_aload_n X.1 X.2.1 dL_isAsked_2 rfl (lv_at hl 3 rfl) ?_
  refine lv_iconst X.1 X.2.1 (v := 0) dL_isAsked_3 (by decide) ?_
  refine ml_ald X hT hM (k := 2) (j := 0) (by decide) (by decide) dL_isAsked_4 ?_
  refine mm_top (w := nI 5) (hR.2.2.1.1.trans (congrArg nI (hI.1))) ?_
  refine lv_irem X.1 X.2.1 dL_isAsked_5 (nI_ne0 (n := 5) (by omega) (by omega)) ?_
  refine mm_top (w := nI (zz % 5)) (pk_rem (a := zz) (d := 5) (by omega) (by omega) (by omega)) ?_
  obtain ⟨p, hp5, ep⟩ : ∃ p, p < 5 ∧ zz % 5 = p := ⟨_, Nat.mod_lt _ (by decide), rfl⟩
  refine mm_top (w := nI p) (congrArg nI ep) ?_
  refine lv_istore X.1 X.2.1 dL_isAsked_6 hl (by decide) rfl (fun ls hl => ?_)
  refine lv_iload X.1 X.2.1 dL_isAsked_8 (lv_at hl 9 rfl) ?_
  refine lv_iconst X.1 X.2.1 (v := 5) dL_isAsked_10 (by decide) ?_
  refine lv_idiv X.1 X.2.1 dL_isAsked_11 (by decide) ?_
  refine mm_top (w := nI (zz / 5)) (pk_div (a := zz) (d := 5) (by omega) (by omega) (by omega)) ?_
  refine lv_aload_n X.1 X.2.1 dL_isAsked_12 rfl (lv_at hl 4 rfl) ?_
  refine lv_iconst X.1 X.2.1 (v := 1) dL_isAsked_13 (by decide) ?_
  refine ml_ald X hT hM (k := 2) (j := 1) (by decide) (by decide) dL_isAsked_14 ?_
  refine mm_top (w := nI 3) (hR.2.2.1.2.1.trans (congrArg nI (hI.2.1))) ?_
  refine lv_irem X.1 X.2.1 dL_isAsked_15 (nI_ne0 (n := 3) (by omega) (by omega)) ?_
  refine mm_top (w := nI ((zz / 5) % 3)) (pk_rem (a := zz / 5) (d := 3) (by omega) (by omega) (by omega)) ?_
  obtain ⟨q, hq3, eq_⟩ : ∃ q, q < 3 ∧ zz / 5 % 3 = q := ⟨_, Nat.mod_lt _ (by decide), rfl⟩
  refine mm_top (w := nI q) (congrArg nI eq_) ?_
  refine lv_istore X.1 X.2.1 dL_isAsked_16 hl (by decide) rfl (fun ls hl => ?_)
  refine mw_join hT 46 (0) (0) (fun r M1 => r = bI (q_has x (nI p) (nI q) && decide (q_over x (nI p) (ct x 22) = 0)) ∧ LW G o ad x z M1) (fun r M1 H locs hp hT => ?_) (fun J46 => ?_)
  · obtain ⟨rfl, hM⟩ := hp
    refine lv_istore X.1 X.2.1 dL_isAsked_46 hl (by decide) rfl (fun ls hl => ?_)
    refine mw_joinN hT 222 (0) (0) (fun M1 => LW G o ad x z M1) (fun M1 H locs hM hT => ?_) (fun J222 => ?_)
    · skip
      refine mw_joinN hT 369 (0) (0) (fun M1 => LW G o ad x z M1) (fun M1 H locs hM hT => ?_) (fun J369 => ?_)
      · skip
        refine mw_joinN hT 529 (0) (0) (fun M1 => LW G o ad x z M1) (fun M1 H locs hM hT => ?_) (fun J529 => ?_)
        · skip
          refine lv_aload_n X.1 X.2.1 dL_isAsked_529 rfl (lv_at hl 6 rfl) ?_
          refine lv_iconst X.1 X.2.1 (v := 4) dL_isAsked_530 (by decide) ?_
          refine ml_ald X hT hM (k := 2) (j := 4) (by decide) (by decide) dL_isAsked_531 ?_
          refine mm_top (w := nI (ct x 17)) (hR.2.2.1.2.2.2.2.1) ?_
          refine lv_if_eq X.1 X.2.1 (tgt := 543) dL_isAsked_532 (by decide) (fun c532 => ?_) (fun c532 => ?_)
          · skip
            refine lv_iconst X.1 X.2.1 (v := 1) dL_isAsked_543 (by decide) ?_
            exact mr_zret X hT hret (by first | rfl | decide | exact bI_nar _) (⟨_, rfl, rfl, _, _, ⟨hR, hI, st_same hq, hT5, hH⟩, hM⟩) (Nat.le_of_ble_eq_true rfl) (Nat.le_of_ble_eq_true rfl) dL_isAsked_544
          · skip
            have e532 : 0 < ct x 17 := Nat.pos_of_ne_zero (fun h => c532 (by rw [h]; rfl))
            refine lv_aload_n X.1 X.2.1 dL_isAsked_535 rfl (lv_at hl 6 rfl) ?_
            refine lv_iconst X.1 X.2.1 (v := 3) dL_isAsked_536 (by decide) ?_
            refine ml_ald X hT hM (k := 2) (j := 3) (by decide) (by decide) dL_isAsked_537 ?_
            refine mm_top (w := nI (ct x 10)) (hR.2.2.1.2.2.2.1) ?_
            refine lv_bipush X.1 X.2.1 (v := 20) dL_isAsked_538 (by decide) ?_
            refine lv_icmp_ne X.1 X.2.1 (tgt := 545) dL_isAsked_540 (by decide) (fun c540 => ?_) (fun c540 => ?_)
            · skip
              have e540 : ct x 10 < 20 := by have h : ¬ ct x 10 = 20 := fun h => c540 (by rw [h]; rfl); omega
              refine mw_join hT 571 (0) (0) (fun r M1 => r = nI (l_ak zz (ct x 17)) ∧ LW G o ad x z M1) (fun r M1 H locs hp hT => ?_) (fun J571 => ?_)
              · obtain ⟨rfl, hM⟩ := hp
                obtain ⟨ak, hak, eak⟩ : ∃ ak, ak < ct x 17 ∧ l_ak zz (ct x 17) = ak := ⟨_, l_ak_lt zz e532, rfl⟩
                rw [eak]
                obtain ⟨⟨u, hu, eu⟩, ⟨v, hv, ev⟩, -, o16⟩ := hX.aq hak
                obtain ⟨q1, q2, q3, q4, q5⟩ := hR.2.2.2.2.1 ak hak
                rw [eu, ev, l_pr] at q1
                have hu5 : u < 5 := by omega
                have hv3 : v < 3 := by omega
                have eJ := l_jud hI hak hp5 hu5 eu ev
                refine lv_istore X.1 X.2.1 dL_isAsked_571 hl (by decide) rfl (fun ls hl => ?_)
                refine lv_iconst X.1 X.2.1 (v := 5) dL_isAsked_573 (by decide) ?_
                refine lv_iload X.1 X.2.1 dL_isAsked_574 (lv_at hl 0 rfl) ?_
                refine lv_imul X.1 X.2.1 dL_isAsked_576 ?_
                refine mm_top (w := nI (5 * ak)) (pk_mul 5 ak) ?_
                refine lv_istore X.1 X.2.1 dL_isAsked_577 hl (by decide) rfl (fun ls hl => ?_)
                refine mw_join hT 633 (0) (0) (fun r M1 => r = bI (decide (cg x 15 ak = 0) && (decide (cg x 0 p ≠ cg x 0 u) && q_has x (nI p) (nI v))) ∧ LW G o ad x z M1) (fun r M1 H locs hp hT => ?_) (fun J633 => ?_)
                · obtain ⟨rfl, hM⟩ := hp
                  refine lv_istore X.1 X.2.1 dL_isAsked_633 hl (by decide) rfl (fun ls hl => ?_)
                  refine lv_iload X.1 X.2.1 dL_isAsked_635 (lv_at hl 13 rfl) ?_
                  refine lv_iconst X.1 X.2.1 (v := 3) dL_isAsked_637 (by decide) ?_
                  refine lv_icmp_ne X.1 X.2.1 (tgt := 719) dL_isAsked_638 (by decide) (fun c638 => ?_) (fun c638 => ?_)
                  · skip
                    refine mw_join hT 743 (0) (0) (fun r M1 => r = bI ((decide (cg x 15 ak = 0) && (decide (cg x 0 p ≠ cg x 0 u) && q_has x (nI p) (nI v))) && decide (cg x 16 ak ≠ nI p)) ∧ LW G o ad x z M1) (fun r M1 H locs hp hT => ?_) (fun J743 => ?_)
                    · obtain ⟨rfl, hM⟩ := hp
                      refine lv_istore X.1 X.2.1 dL_isAsked_743 hl (by decide) rfl (fun ls hl => ?_)
                      refine mw_join hT 765 (0) (0) (fun r M1 => r = bI (((decide (cg x 15 ak = 0) && (decide (cg x 0 p ≠ cg x 0 u) && q_has x (nI p) (nI v))) && decide (cg x 16 ak ≠ nI p)) && decide (cg x 16 ak ≠ -1)) ∧ LW G o ad x z M1) (fun r M1 H locs hp hT => ?_) (fun J765 => ?_)
                      · obtain ⟨rfl, hM⟩ := hp
                        refine lv_istore X.1 X.2.1 dL_isAsked_765 hl (by decide) rfl (fun ls hl => ?_)
                        refine lv_aload X.1 X.2.1 dL_isAsked_767 (lv_at hl 12 rfl) ?_
                        refine lv_iload X.1 X.2.1 dL_isAsked_769 (lv_at hl 2 rfl) ?_
                        refine lv_iconst X.1 X.2.1 (v := 4) dL_isAsked_771 (by decide) ?_
                        refine lv_iadd X.1 X.2.1 dL_isAsked_772 ?_
                        refine mm_top (w := nI (5 * ak + 4)) (nI_add (5 * ak) 4) ?_
                        refine lv_iload X.1 X.2.1 dL_isAsked_773 (lv_at hl 1 rfl) ?_
                        refine lv_if_eq X.1 X.2.1 (tgt := 790) dL_isAsked_775 (by decide) (fun c775 => ?_) (fun c775 => ?_)
                        · skip
                          have d775 : ((decide (cg x 15 ak = 0) && (decide (cg x 0 p ≠ cg x 0 u) && q_has x (nI p) (nI v))) && decide (cg x 16 ak ≠ nI p)) = false := bI_0.mp c775
                          have dS : (((decide (cg x 15 ak = 0) && (decide (cg x 0 p ≠ cg x 0 u) && q_has x (nI p) (nI v))) && decide (cg x 16 ak ≠ nI p)) && decide (cg x 16 ak ≠ -1)) = false := by rw [d775]; rfl
                          refine lv_aload X.1 X.2.1 dL_isAsked_790 (lv_at hl 12 rfl) ?_
                          refine lv_iload X.1 X.2.1 dL_isAsked_792 (lv_at hl 2 rfl) ?_
                          refine lv_iconst X.1 X.2.1 (v := 4) dL_isAsked_794 (by decide) ?_
                          refine lv_iadd X.1 X.2.1 dL_isAsked_795 ?_
                          refine mm_top (w := nI (5 * ak + 4)) (nI_add (5 * ak) 4) ?_
                          refine ml_ald X hT hM (k := 4) (j := 5 * ak + 4) (by decide) (show 5 * ak + 4 < 60 by omega) dL_isAsked_796 ?_
                          refine mm_top (w := cg x 16 ak + 1) (q5) ?_
                          refine ml_ast X hT hM (k := 4) (j := 5 * ak + 4) (by decide) (show 5 * ak + 4 < 60 by omega) dL_isAsked_797 (fun M1 H locs hM hT => ?_)
                          refine lv_aload X.1 X.2.1 dL_isAsked_798 (lv_at hl 12 rfl) ?_
                          refine lv_iload X.1 X.2.1 dL_isAsked_800 (lv_at hl 2 rfl) ?_
                          refine lv_iconst X.1 X.2.1 (v := 3) dL_isAsked_802 (by decide) ?_
                          refine lv_iadd X.1 X.2.1 dL_isAsked_803 ?_
                          refine mm_top (w := nI (5 * ak + 3)) (nI_add (5 * ak) 3) ?_
                          refine lv_iload X.1 X.2.1 dL_isAsked_804 (lv_at hl 0 rfl) ?_
                          refine lv_if_eq X.1 X.2.1 (tgt := 813) dL_isAsked_806 (by decide) (fun _ => ?_) (fun c806 => absurd (by rw [dS]; decide) c806)
                          refine lv_aload X.1 X.2.1 dL_isAsked_813 (lv_at hl 12 rfl) ?_
                          refine lv_iload X.1 X.2.1 dL_isAsked_815 (lv_at hl 2 rfl) ?_
                          refine lv_iconst X.1 X.2.1 (v := 3) dL_isAsked_817 (by decide) ?_
                          refine lv_iadd X.1 X.2.1 dL_isAsked_818 ?_
                          refine mm_top (w := nI (5 * ak + 3)) (nI_add (5 * ak) 3) ?_
                          refine ml_ald X hT hM (k := 4) (j := 5 * ak + 3) (by decide) (show 5 * ak + 3 < 60 by omega) dL_isAsked_819 ?_
                          refine mm_top (w := cg x 15 ak) (by rw [zs_get, if_pos rfl, if_neg (by omega)]; exact q4) ?_
                          refine ml_ast X hT hM (k := 4) (j := 5 * ak + 3) (by decide) (show 5 * ak + 3 < 60 by omega) dL_isAsked_820 (fun M1 H locs hM hT => ?_)
                          refine lv_iload X.1 X.2.1 dL_isAsked_821 (lv_at hl 0 rfl) ?_
                          refine lv_if_eq X.1 X.2.1 (tgt := 844) dL_isAsked_823 (by decide) (fun _ => ?_) (fun c823 => absurd (by rw [dS]; decide) c823)
                          refine lv_aload_n X.1 X.2.1 dL_isAsked_844 rfl (lv_at hl 7 rfl) ?_
                          refine lv_iload X.1 X.2.1 dL_isAsked_845 (lv_at hl 3 rfl) ?_
                          refine lv_iload X.1 X.2.1 dL_isAsked_847 (lv_at hl 6 rfl) ?_
                          have hk2 := l_c2 (l_appc hI hak hp5 eJ)
                          refine mr_gX X hT (fun hT' => mr_runSN X hex hT' cb_RL_100 kw617 kw618 (As := [.ref o, .int (nI ak), .int (nI p)]) (k_approved hfl hM hX hk2.1) rfl rfl hl.1 ⟨Nat.le_of_ble_eq_true rfl, Nat.le_of_ble_eq_true rfl⟩ (Nat.le_of_ble_eq_true rfl) dL_isAsked_849 ⟨Nat.le_of_ble_eq_true rfl, Nat.le_of_ble_eq_true rfl⟩) (fun E ce9 q9 H locs hp hT h1 h2 h3 => absurd hp id) (fun v M1 H locs hp hT => ?_)
                          obtain ⟨r, rfl, hr, hM⟩ := hp
                          rw [if_neg (hk2.2.2 d775)] at hr hM
                          subst hr
                          refine W.eq (g2 := F0 zm 852 ls (.int ((-2)) :: _)) rfl ?_
                          refine lv_iload X.1 X.2.1 dL_isAsked_852 (lv_at hl 1 rfl) ?_
                          refine lv_if_eq X.1 X.2.1 (tgt := 870) dL_isAsked_854 (by decide) (fun _ => ?_) (fun c854 => absurd (by rw [d775]; decide) c854)
                          refine lv_bipush X.1 X.2.1 (v := -2) dL_isAsked_870 (by decide) ?_
                          refine lv_icmp_ne X.1 X.2.1 (tgt := 906) dL_isAsked_872 (by decide) (fun c872 => absurd c872 (by decide)) (fun _ => ?_)
                          refine lv_iload X.1 X.2.1 dL_isAsked_875 (lv_at hl 1 rfl) ?_
                          refine lv_if_eq X.1 X.2.1 (tgt := 902) dL_isAsked_877 (by decide) (fun _ => ?_) (fun c877 => absurd (by rw [d775]; decide) c877)
                          refine lv_iconst X.1 X.2.1 (v := 1) dL_isAsked_902 (by decide) ?_
                          refine lv_goto X.1 X.2.1 (tgt := 907) dL_isAsked_903 (by decide) ?_
                          have hLR := (hR.s16 ak (cg x 16 ak)).s15 ak (cg x 15 ak)
                          rw [cs_id, cs_id] at hLR
                          exact mr_zret X hT hret (by first | rfl | decide | exact bI_nar _) (⟨_, rfl, rfl, _, _, ⟨hLR, hI, st_same hq, hT5, hH⟩, hM⟩) (Nat.le_of_ble_eq_true rfl) (Nat.le_of_ble_eq_true rfl) dL_isAsked_907
                        · skip
                          have d775 : ((decide (cg x 15 ak = 0) && (decide (cg x 0 p ≠ cg x 0 u) && q_has x (nI p) (nI v))) && decide (cg x 16 ak ≠ nI p)) = true := bI_n.mp c775
                          refine lv_iload X.1 X.2.1 dL_isAsked_778 (lv_at hl 0 rfl) ?_
                          refine lv_if_ne X.1 X.2.1 (tgt := 790) dL_isAsked_780 (by decide) (fun c780 => ?_) (fun c780 => ?_)
                          · skip
                            have d780 : (((decide (cg x 15 ak = 0) && (decide (cg x 0 p ≠ cg x 0 u) && q_has x (nI p) (nI v))) && decide (cg x 16 ak ≠ nI p)) && decide (cg x 16 ak ≠ -1)) = true := bI_n.mp c780
                            refine lv_aload X.1 X.2.1 dL_isAsked_790 (lv_at hl 12 rfl) ?_
                            refine lv_iload X.1 X.2.1 dL_isAsked_792 (lv_at hl 2 rfl) ?_
                            refine lv_iconst X.1 X.2.1 (v := 4) dL_isAsked_794 (by decide) ?_
                            refine lv_iadd X.1 X.2.1 dL_isAsked_795 ?_
                            refine mm_top (w := nI (5 * ak + 4)) (nI_add (5 * ak) 4) ?_
                            refine ml_ald X hT hM (k := 4) (j := 5 * ak + 4) (by decide) (show 5 * ak + 4 < 60 by omega) dL_isAsked_796 ?_
                            refine mm_top (w := cg x 16 ak + 1) (q5) ?_
                            refine ml_ast X hT hM (k := 4) (j := 5 * ak + 4) (by decide) (show 5 * ak + 4 < 60 by omega) dL_isAsked_797 (fun M1 H locs hM hT => ?_)
                            refine lv_aload X.1 X.2.1 dL_isAsked_798 (lv_at hl 12 rfl) ?_
                            refine lv_iload X.1 X.2.1 dL_isAsked_800 (lv_at hl 2 rfl) ?_
                            refine lv_iconst X.1 X.2.1 (v := 3) dL_isAsked_802 (by decide) ?_
                            refine lv_iadd X.1 X.2.1 dL_isAsked_803 ?_
                            refine mm_top (w := nI (5 * ak + 3)) (nI_add (5 * ak) 3) ?_
                            refine lv_iload X.1 X.2.1 dL_isAsked_804 (lv_at hl 0 rfl) ?_
                            refine lv_if_eq X.1 X.2.1 (tgt := 813) dL_isAsked_806 (by decide) (fun c806 => absurd c806 (by rw [d780]; decide)) (fun _ => ?_)
                            refine lv_iconst X.1 X.2.1 (v := 1) dL_isAsked_809 (by decide) ?_
                            refine lv_goto X.1 X.2.1 (tgt := 820) dL_isAsked_810 (by decide) ?_
                            refine ml_ast X hT hM (k := 4) (j := 5 * ak + 3) (by decide) (show 5 * ak + 3 < 60 by omega) dL_isAsked_820 (fun M1 H locs hM hT => ?_)
                            refine lv_iload X.1 X.2.1 dL_isAsked_821 (lv_at hl 0 rfl) ?_
                            refine lv_if_eq X.1 X.2.1 (tgt := 844) dL_isAsked_823 (by decide) (fun c823 => absurd c823 (by rw [d780]; decide)) (fun _ => ?_)
                            refine lv_aload X.1 X.2.1 dL_isAsked_826 (lv_at hl 11 rfl) ?_
                            refine lv_aload_n X.1 X.2.1 dL_isAsked_828 rfl (lv_at hl 10 rfl) ?_
                            refine lv_aload X.1 X.2.1 dL_isAsked_829 (lv_at hl 12 rfl) ?_
                            refine lv_iload X.1 X.2.1 dL_isAsked_831 (lv_at hl 2 rfl) ?_
                            refine ml_ald X hT hM (k := 4) (j := 5 * ak) (by decide) (show 5 * ak < 60 by omega) dL_isAsked_833 ?_
                            refine mm_top (w := nI (8 * u + v)) (by rw [zs_get, if_pos rfl, if_neg (by omega), zs_get, if_pos rfl, if_neg (by omega)]; exact q1) ?_
                            refine lv_aload X.1 X.2.1 dL_isAsked_834 (lv_at hl 12 rfl) ?_
                            refine lv_iload X.1 X.2.1 dL_isAsked_836 (lv_at hl 2 rfl) ?_
                            refine lv_iconst X.1 X.2.1 (v := 1) dL_isAsked_838 (by decide) ?_
                            refine lv_iadd X.1 X.2.1 dL_isAsked_839 ?_
                            refine mm_top (w := nI (5 * ak + 1)) (nI_add (5 * ak) 1) ?_
                            refine ml_ald X hT hM (k := 4) (j := 5 * ak + 1) (by decide) (show 5 * ak + 1 < 60 by omega) dL_isAsked_840 ?_
                            refine mm_top (w := cg x 13 ak) (by rw [zs_get, if_pos rfl, if_neg (by omega), zs_get, if_pos rfl, if_neg (by omega)]; exact q2) ?_
                            have hR2 := (hR.s16 ak (cg x 16 ak)).s15 ak 1
                            rw [cs_id] at hR2
                            refine mr_g X hT (fun hT' => mr_runS X hT' cb_RL_90 kw577 kw578 (As := [.ref (ad 3), .ref (ad 2), .int (nI (8 * u + v)), .int (cg x 13 ak)]) (k_give hfl hM hR2 (u := u) (v := v) (t := cg x 13 ak) (show ct x 10 ≤ 20 by omega)) rfl rfl hl.1 ⟨Nat.le_of_ble_eq_true rfl, Nat.le_of_ble_eq_true rfl⟩ (Nat.le_of_ble_eq_true rfl) dL_isAsked_841 ⟨Nat.le_of_ble_eq_true rfl, Nat.le_of_ble_eq_true rfl⟩) (fun v M1 H locs hp hT => ?_)
                            obtain ⟨rfl, z1, hR1, hM⟩ := hp
                            refine W.eq (g2 := F0 zm 844 ls _) rfl ?_
                            have q1z : z1 4 (5 * ak) = nI (8 * u + v) := by have h : z1 4 (5 * ak) = 8 * cg x 11 ak + cg x 12 ak := (hR1.2.2.2.2.1 ak hak).1; rw [h, eu, ev, l_pr]
                            refine lv_aload_n X.1 X.2.1 dL_isAsked_844 rfl (lv_at hl 7 rfl) ?_
                            refine lv_iload X.1 X.2.1 dL_isAsked_845 (lv_at hl 3 rfl) ?_
                            refine lv_iload X.1 X.2.1 dL_isAsked_847 (lv_at hl 6 rfl) ?_
                            have hk2 := l_c2 (l_appc hI hak hp5 eJ)
                            have e16 : ¬ cg x 16 ak = -1 := by have hs := d780; rw [d775] at hs; simpa using hs
                            have eX : f_approve_s x (nI ak) (nI p) = (q_write (q_grant (cs x 15 ak 1) (nI u) (nI v) (cg x 13 ak)) 1 (nI p) (nI v), 1) := by unfold f_approve_s; rw [pn_nI (show ak < 2 ^ 31 by omega), if_neg e16, eu, ev, q_write_grant, q_write_c2 _ (by decide) (by decide)]
                            refine mr_gX X hT (fun hT' => mr_runSN X hex hT' cb_RL_100 kw617 kw618 (As := [.ref o, .int (nI ak), .int (nI p)]) (k_approved hfl hM hX hk2.1) rfl rfl hl.1 ⟨Nat.le_of_ble_eq_true rfl, Nat.le_of_ble_eq_true rfl⟩ (Nat.le_of_ble_eq_true rfl) dL_isAsked_849 ⟨Nat.le_of_ble_eq_true rfl, Nat.le_of_ble_eq_true rfl⟩) (fun E ce9 q9 H locs hp hT h1 h2 h3 => absurd hp id) (fun v M1 H locs hp hT => ?_)
                            obtain ⟨r, rfl, hr, hM⟩ := hp
                            have hr : r = 1 := by rw [hr, if_pos (hk2.2.1 d775), eX]; first | rfl | decide
                            rw [if_pos (hk2.2.1 d775), eX] at hM
                            subst hr
                            refine W.eq (g2 := F0 zm 852 ls (.int 1 :: _)) rfl ?_
                            have hq1 := st_approve hq (show N ≤ 511 by omega) (hk2.2.1 d775)
                            rw [eX] at hq1
                            have hX1 := q_inv_mono hq1.1 (show N + 1 ≤ 511 by omega)
                            refine lv_iload X.1 X.2.1 dL_isAsked_852 (lv_at hl 1 rfl) ?_
                            refine lv_if_eq X.1 X.2.1 (tgt := 870) dL_isAsked_854 (by decide) (fun c854 => absurd c854 (by rw [d775]; decide)) (fun _ => ?_)
                            refine lv_iload X.1 X.2.1 dL_isAsked_857 (lv_at hl 0 rfl) ?_
                            refine lv_if_eq X.1 X.2.1 (tgt := 866) dL_isAsked_859 (by decide) (fun c859 => absurd c859 (by rw [d780]; decide)) (fun _ => ?_)
                            refine lv_iconst X.1 X.2.1 (v := 1) dL_isAsked_862 (by decide) ?_
                            refine lv_goto X.1 X.2.1 (tgt := 872) dL_isAsked_863 (by decide) ?_
                            refine lv_icmp_ne X.1 X.2.1 (tgt := 906) dL_isAsked_872 (by decide) (fun c872 => absurd c872 (by decide)) (fun _ => ?_)
                            refine lv_iload X.1 X.2.1 dL_isAsked_875 (lv_at hl 1 rfl) ?_
                            refine lv_if_eq X.1 X.2.1 (tgt := 902) dL_isAsked_877 (by decide) (fun c877 => absurd c877 (by rw [d775]; decide)) (fun _ => ?_)
                            refine lv_aload_n X.1 X.2.1 dL_isAsked_880 rfl (lv_at hl 7 rfl) ?_
                            refine lv_aload_n X.1 X.2.1 dL_isAsked_881 rfl (lv_at hl 10 rfl) ?_
                            refine lv_iconst X.1 X.2.1 (v := 1) dL_isAsked_882 (by decide) ?_
                            refine lv_iload X.1 X.2.1 dL_isAsked_883 (lv_at hl 6 rfl) ?_
                            refine lv_aload X.1 X.2.1 dL_isAsked_885 (lv_at hl 12 rfl) ?_
                            refine lv_iload X.1 X.2.1 dL_isAsked_887 (lv_at hl 2 rfl) ?_
                            refine ml_ald X hT hM (k := 4) (j := 5 * ak) (by decide) (show 5 * ak < 60 by omega) dL_isAsked_889 ?_
                            refine mm_top (w := nI (8 * u + v)) (q1z) ?_
                            refine lv_bipush X.1 X.2.1 (v := 8) dL_isAsked_890 (by decide) ?_
                            refine lv_irem X.1 X.2.1 dL_isAsked_892 (by decide) ?_
                            refine mm_top (w := nI ((8 * u + v) % 8)) (pk_rem (a := 8 * u + v) (d := 8) (by omega) (by omega) (by omega)) ?_
                            refine mm_top (w := nI v) (congrArg nI (show (8 * u + v) % 8 = v by omega)) ?_
                            refine lv_aload_n X.1 X.2.1 dL_isAsked_893 rfl (lv_at hl 10 rfl) ?_
                            refine lv_iconst X.1 X.2.1 (v := 2) dL_isAsked_894 (by decide) ?_
                            refine ml_ald X hT hM (k := 2) (j := 2) (by decide) (by decide) dL_isAsked_895 ?_
                            refine mm_top (w := nI (ct x 5)) (hR1.2.2.1.2.2.1) ?_
                            have hx1 : q_ext (q_write (q_grant (cs x 15 ak 1) (nI u) (nI v) (cg x 13 ak)) 1 (nI p) (nI v)) ((q_write (q_grant (cs x 15 ak 1) (nI u) (nI v) (cg x 13 ak)) 1 (nI p) (nI v), (1 : Int32)).1) := q_ext.rf _
                            obtain ⟨g1, g2, g3⟩ := q_ext_at hx1
                            have eS : q_seal x 1 (nI p) (nI v) = nI ((31 * sq + 1 + 10 * p + 200 * v + 2000 * ct x 5) % 1000003) := q_seal_nI (k := 1) esq hsq (by decide) (by omega) (by omega) (by omega)
                            have g3 : cg ((q_write (q_grant (cs x 15 ak 1) (nI u) (nI v) (cg x 13 ak)) 1 (nI p) (nI v), (1 : Int32)).1) 31 (ct x 32) = nI ((31 * sq + 1 + 10 * p + 200 * v + 2000 * ct x 5) % 1000003) := g3.trans eS
                            have hLR := (hR1).write 1 (nI p) (nI v)
                            rw [show q_seal (q_grant (cs x 15 ak 1) (nI u) (nI v) (cg x 13 ak)) 1 (nI p) (nI v) = nI ((31 * sq + 1 + 10 * p + 200 * v + 2000 * ct x 5) % 1000003) from eS] at hLR
                            refine mr_g X hT (fun hT' => mr_runS X hT' cb_RL_38 kw418 kw419 (As := [.ref o, .ref (ad 2), .int 1, .int (nI p), .int (nI v), .int (nI (ct x 5))]) (k_isStep hfl hM hX1 (s := sq) (n := ct x 32) (kd := 1) (p := p) (m := v) (tt := ct x 5) (by exact (hR1.2.2.1.2.2.2.2.2.2.2.2).trans esq) hsq (by exact hR1.2.2.1.2.2.2.2.2.2.2.1) (by decide) (by omega) (by omega) (by omega) g1 g2 g3) rfl rfl hl.1 ⟨Nat.le_of_ble_eq_true rfl, Nat.le_of_ble_eq_true rfl⟩ (Nat.le_of_ble_eq_true rfl) dL_isAsked_896 ⟨Nat.le_of_ble_eq_true rfl, Nat.le_of_ble_eq_true rfl⟩) (fun v M1 H locs hp hT => ?_)
                            obtain ⟨r, rfl, rfl, hM⟩ := hp
                            refine W.eq (g2 := F0 zm 899 ls (.int 1 :: _)) rfl ?_
                            refine lv_if_eq X.1 X.2.1 (tgt := 906) dL_isAsked_899 (by decide) (fun c899 => absurd c899 (by decide)) (fun _ => ?_)
                            refine lv_iconst X.1 X.2.1 (v := 1) dL_isAsked_902 (by decide) ?_
                            refine lv_goto X.1 X.2.1 (tgt := 907) dL_isAsked_903 (by decide) ?_
                            exact mr_zret X hT hret (by first | rfl | decide | exact bI_nar _) (⟨_, rfl, rfl, _, _, ⟨hLR, (LI.grant (LI.stl hI ak 1) e540).write (k := 1) v5 (by decide) (by omega) (by omega), hq1, hT5, hH⟩, hM⟩) (Nat.le_of_ble_eq_true rfl) (Nat.le_of_ble_eq_true rfl) dL_isAsked_907
                          · skip
                            have d780 : (((decide (cg x 15 ak = 0) && (decide (cg x 0 p ≠ cg x 0 u) && q_has x (nI p) (nI v))) && decide (cg x 16 ak ≠ nI p)) && decide (cg x 16 ak ≠ -1)) = false := bI_0.mp c780
                            refine lv_iload X.1 X.2.1 dL_isAsked_783 (lv_at hl 6 rfl) ?_
                            refine lv_iconst X.1 X.2.1 (v := 1) dL_isAsked_785 (by decide) ?_
                            refine lv_iadd X.1 X.2.1 dL_isAsked_786 ?_
                            refine mm_top (w := nI (p + 1)) (nI_add p 1) ?_
                            refine lv_goto X.1 X.2.1 (tgt := 797) dL_isAsked_787 (by decide) ?_
                            refine ml_ast X hT hM (k := 4) (j := 5 * ak + 4) (by decide) (show 5 * ak + 4 < 60 by omega) dL_isAsked_797 (fun M1 H locs hM hT => ?_)
                            refine lv_aload X.1 X.2.1 dL_isAsked_798 (lv_at hl 12 rfl) ?_
                            refine lv_iload X.1 X.2.1 dL_isAsked_800 (lv_at hl 2 rfl) ?_
                            refine lv_iconst X.1 X.2.1 (v := 3) dL_isAsked_802 (by decide) ?_
                            refine lv_iadd X.1 X.2.1 dL_isAsked_803 ?_
                            refine mm_top (w := nI (5 * ak + 3)) (nI_add (5 * ak) 3) ?_
                            refine lv_iload X.1 X.2.1 dL_isAsked_804 (lv_at hl 0 rfl) ?_
                            refine lv_if_eq X.1 X.2.1 (tgt := 813) dL_isAsked_806 (by decide) (fun _ => ?_) (fun c806 => absurd (by rw [d780]; decide) c806)
                            refine lv_aload X.1 X.2.1 dL_isAsked_813 (lv_at hl 12 rfl) ?_
                            refine lv_iload X.1 X.2.1 dL_isAsked_815 (lv_at hl 2 rfl) ?_
                            refine lv_iconst X.1 X.2.1 (v := 3) dL_isAsked_817 (by decide) ?_
                            refine lv_iadd X.1 X.2.1 dL_isAsked_818 ?_
                            refine mm_top (w := nI (5 * ak + 3)) (nI_add (5 * ak) 3) ?_
                            refine ml_ald X hT hM (k := 4) (j := 5 * ak + 3) (by decide) (show 5 * ak + 3 < 60 by omega) dL_isAsked_819 ?_
                            refine mm_top (w := cg x 15 ak) (by rw [zs_get, if_pos rfl, if_neg (by omega)]; exact q4) ?_
                            refine ml_ast X hT hM (k := 4) (j := 5 * ak + 3) (by decide) (show 5 * ak + 3 < 60 by omega) dL_isAsked_820 (fun M1 H locs hM hT => ?_)
                            refine lv_iload X.1 X.2.1 dL_isAsked_821 (lv_at hl 0 rfl) ?_
                            refine lv_if_eq X.1 X.2.1 (tgt := 844) dL_isAsked_823 (by decide) (fun _ => ?_) (fun c823 => absurd (by rw [d780]; decide) c823)
                            have hLR0 := (hR.s16 ak (nI p)).s15 ak (cg x 15 ak)
                            rw [show cs (cs x 16 ak (nI p)) 15 ak (cg x 15 ak) = cs x 16 ak (nI p) from cs_id (cs x 16 ak (nI p)) 15 ak, nI_1] at hLR0
                            refine lv_aload_n X.1 X.2.1 dL_isAsked_844 rfl (lv_at hl 7 rfl) ?_
                            refine lv_iload X.1 X.2.1 dL_isAsked_845 (lv_at hl 3 rfl) ?_
                            refine lv_iload X.1 X.2.1 dL_isAsked_847 (lv_at hl 6 rfl) ?_
                            have hk2 := l_c2 (l_appc hI hak hp5 eJ)
                            have e16 : cg x 16 ak = -1 := by have hs := d780; rw [d775] at hs; simpa using hs
                            have eX : f_approve_s x (nI ak) (nI p) = (q_write (cs x 16 ak (nI p)) 1 (nI p) (nI v), 0) := by unfold f_approve_s; rw [pn_nI (show ak < 2 ^ 31 by omega), if_pos e16, ev, q_write_c2 _ (by decide) (by decide)]
                            refine mr_gX X hT (fun hT' => mr_runSN X hex hT' cb_RL_100 kw617 kw618 (As := [.ref o, .int (nI ak), .int (nI p)]) (k_approved hfl hM hX hk2.1) rfl rfl hl.1 ⟨Nat.le_of_ble_eq_true rfl, Nat.le_of_ble_eq_true rfl⟩ (Nat.le_of_ble_eq_true rfl) dL_isAsked_849 ⟨Nat.le_of_ble_eq_true rfl, Nat.le_of_ble_eq_true rfl⟩) (fun E ce9 q9 H locs hp hT h1 h2 h3 => absurd hp id) (fun v M1 H locs hp hT => ?_)
                            obtain ⟨r, rfl, hr, hM⟩ := hp
                            have hr : r = 0 := by rw [hr, if_pos (hk2.2.1 d775), eX]; first | rfl | decide
                            rw [if_pos (hk2.2.1 d775), eX] at hM
                            subst hr
                            refine W.eq (g2 := F0 zm 852 ls (.int 0 :: _)) rfl ?_
                            have hq1 := st_approve hq (show N ≤ 511 by omega) (hk2.2.1 d775)
                            rw [eX] at hq1
                            have hX1 := q_inv_mono hq1.1 (show N + 1 ≤ 511 by omega)
                            refine lv_iload X.1 X.2.1 dL_isAsked_852 (lv_at hl 1 rfl) ?_
                            refine lv_if_eq X.1 X.2.1 (tgt := 870) dL_isAsked_854 (by decide) (fun c854 => absurd c854 (by rw [d775]; decide)) (fun _ => ?_)
                            refine lv_iload X.1 X.2.1 dL_isAsked_857 (lv_at hl 0 rfl) ?_
                            refine lv_if_eq X.1 X.2.1 (tgt := 866) dL_isAsked_859 (by decide) (fun _ => ?_) (fun c859 => absurd (by rw [d780]; decide) c859)
                            refine lv_iconst X.1 X.2.1 (v := 0) dL_isAsked_866 (by decide) ?_
                            refine lv_goto X.1 X.2.1 (tgt := 872) dL_isAsked_867 (by decide) ?_
                            refine lv_icmp_ne X.1 X.2.1 (tgt := 906) dL_isAsked_872 (by decide) (fun c872 => absurd c872 (by decide)) (fun _ => ?_)
                            refine lv_iload X.1 X.2.1 dL_isAsked_875 (lv_at hl 1 rfl) ?_
                            refine lv_if_eq X.1 X.2.1 (tgt := 902) dL_isAsked_877 (by decide) (fun c877 => absurd c877 (by rw [d775]; decide)) (fun _ => ?_)
                            refine lv_aload_n X.1 X.2.1 dL_isAsked_880 rfl (lv_at hl 7 rfl) ?_
                            refine lv_aload_n X.1 X.2.1 dL_isAsked_881 rfl (lv_at hl 10 rfl) ?_
                            refine lv_iconst X.1 X.2.1 (v := 1) dL_isAsked_882 (by decide) ?_
                            refine lv_iload X.1 X.2.1 dL_isAsked_883 (lv_at hl 6 rfl) ?_
                            refine lv_aload X.1 X.2.1 dL_isAsked_885 (lv_at hl 12 rfl) ?_
                            refine lv_iload X.1 X.2.1 dL_isAsked_887 (lv_at hl 2 rfl) ?_
                            refine ml_ald X hT hM (k := 4) (j := 5 * ak) (by decide) (show 5 * ak < 60 by omega) dL_isAsked_889 ?_
                            refine mm_top (w := nI (8 * u + v)) (by rw [zs_get, if_pos rfl, if_neg (by omega), zs_get, if_pos rfl, if_neg (by omega)]; exact q1) ?_
                            refine lv_bipush X.1 X.2.1 (v := 8) dL_isAsked_890 (by decide) ?_
                            refine lv_irem X.1 X.2.1 dL_isAsked_892 (by decide) ?_
                            refine mm_top (w := nI ((8 * u + v) % 8)) (pk_rem (a := 8 * u + v) (d := 8) (by omega) (by omega) (by omega)) ?_
                            refine mm_top (w := nI v) (congrArg nI (show (8 * u + v) % 8 = v by omega)) ?_
                            refine lv_aload_n X.1 X.2.1 dL_isAsked_893 rfl (lv_at hl 10 rfl) ?_
                            refine lv_iconst X.1 X.2.1 (v := 2) dL_isAsked_894 (by decide) ?_
                            refine ml_ald X hT hM (k := 2) (j := 2) (by decide) (by decide) dL_isAsked_895 ?_
                            refine mm_top (w := nI (ct x 5)) (by rw [zs_get, if_neg (by decide), zs_get, if_neg (by decide)]; exact hR.2.2.1.2.2.1) ?_
                            have hx1 : q_ext (q_write (cs x 16 ak (nI p)) 1 (nI p) (nI v)) ((q_write (cs x 16 ak (nI p)) 1 (nI p) (nI v), (0 : Int32)).1) := q_ext.rf _
                            obtain ⟨g1, g2, g3⟩ := q_ext_at hx1
                            have eS : q_seal x 1 (nI p) (nI v) = nI ((31 * sq + 1 + 10 * p + 200 * v + 2000 * ct x 5) % 1000003) := q_seal_nI (k := 1) esq hsq (by decide) (by omega) (by omega) (by omega)
                            have g3 : cg ((q_write (cs x 16 ak (nI p)) 1 (nI p) (nI v), (0 : Int32)).1) 31 (ct x 32) = nI ((31 * sq + 1 + 10 * p + 200 * v + 2000 * ct x 5) % 1000003) := g3.trans eS
                            have hLR := (hLR0).write 1 (nI p) (nI v)
                            rw [show q_seal (cs x 16 ak (nI p)) 1 (nI p) (nI v) = nI ((31 * sq + 1 + 10 * p + 200 * v + 2000 * ct x 5) % 1000003) from eS] at hLR
                            refine mr_g X hT (fun hT' => mr_runS X hT' cb_RL_38 kw418 kw419 (As := [.ref o, .ref (ad 2), .int 1, .int (nI p), .int (nI v), .int (nI (ct x 5))]) (k_isStep hfl hM hX1 (s := sq) (n := ct x 32) (kd := 1) (p := p) (m := v) (tt := ct x 5) (by rw [zs_get, if_neg (by decide), zs_get, if_neg (by decide)]; exact (hR.2.2.1.2.2.2.2.2.2.2.2).trans esq) hsq (by rw [zs_get, if_neg (by decide), zs_get, if_neg (by decide)]; exact hR.2.2.1.2.2.2.2.2.2.2.1) (by decide) (by omega) (by omega) (by omega) g1 g2 g3) rfl rfl hl.1 ⟨Nat.le_of_ble_eq_true rfl, Nat.le_of_ble_eq_true rfl⟩ (Nat.le_of_ble_eq_true rfl) dL_isAsked_896 ⟨Nat.le_of_ble_eq_true rfl, Nat.le_of_ble_eq_true rfl⟩) (fun v M1 H locs hp hT => ?_)
                            obtain ⟨r, rfl, rfl, hM⟩ := hp
                            refine W.eq (g2 := F0 zm 899 ls (.int 1 :: _)) rfl ?_
                            refine lv_if_eq X.1 X.2.1 (tgt := 906) dL_isAsked_899 (by decide) (fun c899 => absurd c899 (by decide)) (fun _ => ?_)
                            refine lv_iconst X.1 X.2.1 (v := 1) dL_isAsked_902 (by decide) ?_
                            refine lv_goto X.1 X.2.1 (tgt := 907) dL_isAsked_903 (by decide) ?_
                            exact mr_zret X hT hret (by first | rfl | decide | exact bI_nar _) (⟨_, rfl, rfl, _, _, ⟨hLR, (LI.fst hI ak (nI p)).write (k := 1) v5 (by decide) (by omega) (by omega), hq1, hT5, hH⟩, hM⟩) (Nat.le_of_ble_eq_true rfl) (Nat.le_of_ble_eq_true rfl) dL_isAsked_907
                      · skip
                        refine lv_iload X.1 X.2.1 dL_isAsked_745 (lv_at hl 0 rfl) ?_
                        refine lv_if_eq X.1 X.2.1 (tgt := 764) dL_isAsked_747 (by decide) (fun c747 => ?_) (fun c747 => ?_)
                        · skip
                          have d747 : ((decide (cg x 15 ak = 0) && (decide (cg x 0 p ≠ cg x 0 u) && q_has x (nI p) (nI v))) && decide (cg x 16 ak ≠ nI p)) = false := bI_0.mp c747
                          have dS : (((decide (cg x 15 ak = 0) && (decide (cg x 0 p ≠ cg x 0 u) && q_has x (nI p) (nI v))) && decide (cg x 16 ak ≠ nI p)) && decide (cg x 16 ak ≠ -1)) = false := by rw [d747]; rfl
                          refine lv_iconst X.1 X.2.1 (v := 0) dL_isAsked_764 (by decide) ?_
                          refine W.widen (k := 0) (n := 0) (show ((0) : Nat) ≤ 0 by omega) (show ((0) : Nat) ≤ 0 by omega) ?_
                          exact J765 _ _ _ _ ⟨by first | (rw [d747]; rfl) | (rw [d747, d_nef ((l_gt0 (n := ct x 2) (by omega) o16).mp c757)]; rfl) | (rw [d747, decide_eq_true (show cg x 16 ak ≠ -1 from fun h => c757 ((l_gt0 (n := ct x 2) (by omega) o16).mpr h))]; rfl), hM⟩ hT
                        · skip
                          have d747 : ((decide (cg x 15 ak = 0) && (decide (cg x 0 p ≠ cg x 0 u) && q_has x (nI p) (nI v))) && decide (cg x 16 ak ≠ nI p)) = true := bI_n.mp c747
                          refine lv_aload X.1 X.2.1 dL_isAsked_750 (lv_at hl 11 rfl) ?_
                          refine lv_iload X.1 X.2.1 dL_isAsked_752 (lv_at hl 1 rfl) ?_
                          refine lv_iconst X.1 X.2.1 (v := 4) dL_isAsked_754 (by decide) ?_
                          refine lv_iadd X.1 X.2.1 dL_isAsked_755 ?_
                          refine mm_top (w := nI (5 * ak + 4)) (nI_add (5 * ak) 4) ?_
                          refine ml_ald X hT hM (k := 4) (j := 5 * ak + 4) (by decide) (show 5 * ak + 4 < 60 by omega) dL_isAsked_756 ?_
                          refine mm_top (w := cg x 16 ak + 1) (q5) ?_
                          refine lv_if_le X.1 X.2.1 (tgt := 764) dL_isAsked_757 (by decide) (fun c757 => ?_) (fun c757 => ?_)
                          · skip
                            refine lv_iconst X.1 X.2.1 (v := 0) dL_isAsked_764 (by decide) ?_
                            refine W.widen (k := 0) (n := 0) (show ((0) : Nat) ≤ 0 by omega) (show ((0) : Nat) ≤ 0 by omega) ?_
                            exact J765 _ _ _ _ ⟨by first | (rw [d747]; rfl) | (rw [d747, d_nef ((l_gt0 (n := ct x 2) (by omega) o16).mp c757)]; rfl) | (rw [d747, decide_eq_true (show cg x 16 ak ≠ -1 from fun h => c757 ((l_gt0 (n := ct x 2) (by omega) o16).mpr h))]; rfl), hM⟩ hT
                          · skip
                            refine lv_iconst X.1 X.2.1 (v := 1) dL_isAsked_760 (by decide) ?_
                            refine lv_goto X.1 X.2.1 (tgt := 765) dL_isAsked_761 (by decide) ?_
                            refine W.widen (k := 0) (n := 0) (show ((0) : Nat) ≤ 0 by omega) (show ((0) : Nat) ≤ 0 by omega) ?_
                            exact J765 _ _ _ _ ⟨by first | (rw [d747]; rfl) | (rw [d747, d_nef ((l_gt0 (n := ct x 2) (by omega) o16).mp c757)]; rfl) | (rw [d747, decide_eq_true (show cg x 16 ak ≠ -1 from fun h => c757 ((l_gt0 (n := ct x 2) (by omega) o16).mpr h))]; rfl), hM⟩ hT
                    · skip
                      refine lv_iload X.1 X.2.1 dL_isAsked_719 (lv_at hl 0 rfl) ?_
                      refine lv_if_eq X.1 X.2.1 (tgt := 742) dL_isAsked_721 (by decide) (fun c721 => ?_) (fun c721 => ?_)
                      · skip
                        have d721 : (decide (cg x 15 ak = 0) && (decide (cg x 0 p ≠ cg x 0 u) && q_has x (nI p) (nI v))) = false := bI_0.mp c721
                        refine lv_iconst X.1 X.2.1 (v := 0) dL_isAsked_742 (by decide) ?_
                        refine W.widen (k := 0) (n := 0) (show ((0) : Nat) ≤ 0 by omega) (show ((0) : Nat) ≤ 0 by omega) ?_
                        exact J743 _ _ _ _ ⟨by first | (rw [d721]; rfl) | (rw [d721, d_nef (l_p1.mp c735)]; rfl) | (rw [d721, decide_eq_true (show cg x 16 ak ≠ nI p from fun h => c735 (l_p1.mpr h))]; rfl), hM⟩ hT
                      · skip
                        have d721 : (decide (cg x 15 ak = 0) && (decide (cg x 0 p ≠ cg x 0 u) && q_has x (nI p) (nI v))) = true := bI_n.mp c721
                        refine lv_aload X.1 X.2.1 dL_isAsked_724 (lv_at hl 11 rfl) ?_
                        refine lv_iload X.1 X.2.1 dL_isAsked_726 (lv_at hl 1 rfl) ?_
                        refine lv_iconst X.1 X.2.1 (v := 4) dL_isAsked_728 (by decide) ?_
                        refine lv_iadd X.1 X.2.1 dL_isAsked_729 ?_
                        refine mm_top (w := nI (5 * ak + 4)) (nI_add (5 * ak) 4) ?_
                        refine ml_ald X hT hM (k := 4) (j := 5 * ak + 4) (by decide) (show 5 * ak + 4 < 60 by omega) dL_isAsked_730 ?_
                        refine mm_top (w := cg x 16 ak + 1) (q5) ?_
                        refine lv_iload X.1 X.2.1 dL_isAsked_731 (lv_at hl 5 rfl) ?_
                        refine lv_iconst X.1 X.2.1 (v := 1) dL_isAsked_733 (by decide) ?_
                        refine lv_iadd X.1 X.2.1 dL_isAsked_734 ?_
                        refine mm_top (w := nI (p + 1)) (nI_add p 1) ?_
                        refine lv_icmp_eq X.1 X.2.1 (tgt := 742) dL_isAsked_735 (by decide) (fun c735 => ?_) (fun c735 => ?_)
                        · skip
                          refine lv_iconst X.1 X.2.1 (v := 0) dL_isAsked_742 (by decide) ?_
                          refine W.widen (k := 0) (n := 0) (show ((0) : Nat) ≤ 0 by omega) (show ((0) : Nat) ≤ 0 by omega) ?_
                          exact J743 _ _ _ _ ⟨by first | (rw [d721]; rfl) | (rw [d721, d_nef (l_p1.mp c735)]; rfl) | (rw [d721, decide_eq_true (show cg x 16 ak ≠ nI p from fun h => c735 (l_p1.mpr h))]; rfl), hM⟩ hT
                        · skip
                          refine lv_iconst X.1 X.2.1 (v := 1) dL_isAsked_738 (by decide) ?_
                          refine lv_goto X.1 X.2.1 (tgt := 743) dL_isAsked_739 (by decide) ?_
                          refine W.widen (k := 0) (n := 0) (show ((0) : Nat) ≤ 0 by omega) (show ((0) : Nat) ≤ 0 by omega) ?_
                          exact J743 _ _ _ _ ⟨by first | (rw [d721]; rfl) | (rw [d721, d_nef (l_p1.mp c735)]; rfl) | (rw [d721, decide_eq_true (show cg x 16 ak ≠ nI p from fun h => c735 (l_p1.mpr h))]; rfl), hM⟩ hT
                  · skip
                    refine lv_aload X.1 X.2.1 dL_isAsked_641 (lv_at hl 11 rfl) ?_
                    refine lv_iload X.1 X.2.1 dL_isAsked_643 (lv_at hl 1 rfl) ?_
                    refine lv_iconst X.1 X.2.1 (v := 3) dL_isAsked_645 (by decide) ?_
                    refine lv_iadd X.1 X.2.1 dL_isAsked_646 ?_
                    refine mm_top (w := nI (5 * ak + 3)) (nI_add (5 * ak) 3) ?_
                    refine lv_iload X.1 X.2.1 dL_isAsked_647 (lv_at hl 0 rfl) ?_
                    refine lv_if_eq X.1 X.2.1 (tgt := 656) dL_isAsked_649 (by decide) (fun c649 => ?_) (fun c649 => ?_)
                    · skip
                      have d649 : (decide (cg x 15 ak = 0) && (decide (cg x 0 p ≠ cg x 0 u) && q_has x (nI p) (nI v))) = false := bI_0.mp c649
                      refine lv_aload X.1 X.2.1 dL_isAsked_656 (lv_at hl 11 rfl) ?_
                      refine lv_iload X.1 X.2.1 dL_isAsked_658 (lv_at hl 1 rfl) ?_
                      refine lv_iconst X.1 X.2.1 (v := 3) dL_isAsked_660 (by decide) ?_
                      refine lv_iadd X.1 X.2.1 dL_isAsked_661 ?_
                      refine mm_top (w := nI (5 * ak + 3)) (nI_add (5 * ak) 3) ?_
                      refine ml_ald X hT hM (k := 4) (j := 5 * ak + 3) (by decide) (show 5 * ak + 3 < 60 by omega) dL_isAsked_662 ?_
                      refine mm_top (w := cg x 15 ak) (q4) ?_
                      refine ml_ast X hT hM (k := 4) (j := 5 * ak + 3) (by decide) (show 5 * ak + 3 < 60 by omega) dL_isAsked_663 (fun M1 H locs hM hT => ?_)
                      refine lv_aload_n X.1 X.2.1 dL_isAsked_664 rfl (lv_at hl 6 rfl) ?_
                      refine lv_iload X.1 X.2.1 dL_isAsked_665 (lv_at hl 2 rfl) ?_
                      refine lv_iload X.1 X.2.1 dL_isAsked_667 (lv_at hl 5 rfl) ?_
                      have hk2 := l_c2 (l_denc hI hak hp5 eJ)
                      refine mr_gX X hT (fun hT' => mr_runSN X hex hT' cb_RL_97 kw594 kw595 (As := [.ref o, .int (nI ak), .int (nI p)]) (k_denied hfl hM hX hk2.1) rfl rfl hl.1 ⟨Nat.le_of_ble_eq_true rfl, Nat.le_of_ble_eq_true rfl⟩ (Nat.le_of_ble_eq_true rfl) dL_isAsked_669 ⟨Nat.le_of_ble_eq_true rfl, Nat.le_of_ble_eq_true rfl⟩) (fun E ce9 q9 H locs hp hT h1 h2 h3 => absurd hp id) (fun v M1 H locs hp hT => ?_)
                      obtain ⟨r, rfl, hr, hM⟩ := hp
                      rw [if_neg (hk2.2.2 d649)] at hr hM
                      subst hr
                      refine W.eq (g2 := F0 zm 672 ls (.int ((-2)) :: _)) rfl ?_
                      refine lv_iload X.1 X.2.1 dL_isAsked_672 (lv_at hl 0 rfl) ?_
                      refine lv_if_eq X.1 X.2.1 (tgt := 681) dL_isAsked_674 (by decide) (fun _ => ?_) (fun c674 => absurd (by rw [d649]; decide) c674)
                      refine lv_bipush X.1 X.2.1 (v := -2) dL_isAsked_681 (by decide) ?_
                      refine lv_icmp_ne X.1 X.2.1 (tgt := 717) dL_isAsked_683 (by decide) (fun c683 => absurd c683 (by decide)) (fun _ => ?_)
                      refine lv_iload X.1 X.2.1 dL_isAsked_686 (lv_at hl 0 rfl) ?_
                      refine lv_if_eq X.1 X.2.1 (tgt := 713) dL_isAsked_688 (by decide) (fun _ => ?_) (fun c688 => absurd (by rw [d649]; decide) c688)
                      refine lv_iconst X.1 X.2.1 (v := 1) dL_isAsked_713 (by decide) ?_
                      refine lv_goto X.1 X.2.1 (tgt := 718) dL_isAsked_714 (by decide) ?_
                      have hLR := hR.s15 ak (cg x 15 ak)
                      rw [cs_id] at hLR
                      exact mr_zret X hT hret (by first | rfl | decide | exact bI_nar _) (⟨_, rfl, rfl, _, _, ⟨hLR, hI, st_same hq, hT5, hH⟩, hM⟩) (Nat.le_of_ble_eq_true rfl) (Nat.le_of_ble_eq_true rfl) dL_isAsked_718
                    · skip
                      have d649 : (decide (cg x 15 ak = 0) && (decide (cg x 0 p ≠ cg x 0 u) && q_has x (nI p) (nI v))) = true := bI_n.mp c649
                      refine lv_iconst X.1 X.2.1 (v := 2) dL_isAsked_652 (by decide) ?_
                      refine lv_goto X.1 X.2.1 (tgt := 663) dL_isAsked_653 (by decide) ?_
                      refine ml_ast X hT hM (k := 4) (j := 5 * ak + 3) (by decide) (show 5 * ak + 3 < 60 by omega) dL_isAsked_663 (fun M1 H locs hM hT => ?_)
                      refine lv_aload_n X.1 X.2.1 dL_isAsked_664 rfl (lv_at hl 6 rfl) ?_
                      refine lv_iload X.1 X.2.1 dL_isAsked_665 (lv_at hl 2 rfl) ?_
                      refine lv_iload X.1 X.2.1 dL_isAsked_667 (lv_at hl 5 rfl) ?_
                      have hk2 := l_c2 (l_denc hI hak hp5 eJ)
                      refine mr_gX X hT (fun hT' => mr_runSN X hex hT' cb_RL_97 kw594 kw595 (As := [.ref o, .int (nI ak), .int (nI p)]) (k_denied hfl hM hX hk2.1) rfl rfl hl.1 ⟨Nat.le_of_ble_eq_true rfl, Nat.le_of_ble_eq_true rfl⟩ (Nat.le_of_ble_eq_true rfl) dL_isAsked_669 ⟨Nat.le_of_ble_eq_true rfl, Nat.le_of_ble_eq_true rfl⟩) (fun E ce9 q9 H locs hp hT h1 h2 h3 => absurd hp id) (fun v M1 H locs hp hT => ?_)
                      obtain ⟨r, rfl, hr, hM⟩ := hp
                      rw [if_pos (hk2.2.1 d649)] at hr hM
                      subst hr
                      refine W.eq (g2 := F0 zm 672 ls (.int 0 :: _)) rfl ?_
                      have hq1 := st_deny (a := nI ak) (b := nI p) hq
                      have hX1 := q_inv_mono hq1.1 (show N + 1 ≤ 511 by omega)
                      have eX : f_deny_s x (nI ak) (nI p) = q_write (cs x 15 ak 2) 2 (nI p) (nI v) := by unfold f_deny_s; rw [pn_nI (show ak < 2 ^ 31 by omega), ev]
                      rw [eX] at hM hq1 hX1
                      refine lv_iload X.1 X.2.1 dL_isAsked_672 (lv_at hl 0 rfl) ?_
                      refine lv_if_eq X.1 X.2.1 (tgt := 681) dL_isAsked_674 (by decide) (fun c674 => absurd c674 (by rw [d649]; decide)) (fun _ => ?_)
                      refine lv_iconst X.1 X.2.1 (v := 0) dL_isAsked_677 (by decide) ?_
                      refine lv_goto X.1 X.2.1 (tgt := 683) dL_isAsked_678 (by decide) ?_
                      refine lv_icmp_ne X.1 X.2.1 (tgt := 717) dL_isAsked_683 (by decide) (fun c683 => absurd c683 (by decide)) (fun _ => ?_)
                      refine lv_iload X.1 X.2.1 dL_isAsked_686 (lv_at hl 0 rfl) ?_
                      refine lv_if_eq X.1 X.2.1 (tgt := 713) dL_isAsked_688 (by decide) (fun c688 => absurd c688 (by rw [d649]; decide)) (fun _ => ?_)
                      refine lv_aload_n X.1 X.2.1 dL_isAsked_691 rfl (lv_at hl 6 rfl) ?_
                      refine lv_aload_n X.1 X.2.1 dL_isAsked_692 rfl (lv_at hl 9 rfl) ?_
                      refine lv_iconst X.1 X.2.1 (v := 2) dL_isAsked_693 (by decide) ?_
                      refine lv_iload X.1 X.2.1 dL_isAsked_694 (lv_at hl 5 rfl) ?_
                      refine lv_aload X.1 X.2.1 dL_isAsked_696 (lv_at hl 11 rfl) ?_
                      refine lv_iload X.1 X.2.1 dL_isAsked_698 (lv_at hl 1 rfl) ?_
                      refine ml_ald X hT hM (k := 4) (j := 5 * ak) (by decide) (show 5 * ak < 60 by omega) dL_isAsked_700 ?_
                      refine mm_top (w := nI (8 * u + v)) (by rw [zs_get, if_pos rfl, if_neg (by omega)]; exact q1) ?_
                      refine lv_bipush X.1 X.2.1 (v := 8) dL_isAsked_701 (by decide) ?_
                      refine lv_irem X.1 X.2.1 dL_isAsked_703 (by decide) ?_
                      refine mm_top (w := nI ((8 * u + v) % 8)) (pk_rem (a := 8 * u + v) (d := 8) (by omega) (by omega) (by omega)) ?_
                      refine mm_top (w := nI v) (congrArg nI (show (8 * u + v) % 8 = v by omega)) ?_
                      refine lv_aload_n X.1 X.2.1 dL_isAsked_704 rfl (lv_at hl 9 rfl) ?_
                      refine lv_iconst X.1 X.2.1 (v := 2) dL_isAsked_705 (by decide) ?_
                      refine ml_ald X hT hM (k := 2) (j := 2) (by decide) (by decide) dL_isAsked_706 ?_
                      refine mm_top (w := nI (ct x 5)) (by rw [zs_get, if_neg (by decide)]; exact hR.2.2.1.2.2.1) ?_
                      have hx1 : q_ext (q_write (cs x 15 ak 2) 2 (nI p) (nI v)) (q_write (cs x 15 ak 2) 2 (nI p) (nI v)) := q_ext.rf _
                      obtain ⟨g1, g2, g3⟩ := q_ext_at hx1
                      have eS : q_seal x 2 (nI p) (nI v) = nI ((31 * sq + 2 + 10 * p + 200 * v + 2000 * ct x 5) % 1000003) := q_seal_nI (k := 2) esq hsq (by decide) (by omega) (by omega) (by omega)
                      have g3 : cg (q_write (cs x 15 ak 2) 2 (nI p) (nI v)) 31 (ct x 32) = nI ((31 * sq + 2 + 10 * p + 200 * v + 2000 * ct x 5) % 1000003) := g3.trans eS
                      have hLR := (hR.s15 ak 2).write 2 (nI p) (nI v)
                      rw [show q_seal (cs x 15 ak 2) 2 (nI p) (nI v) = nI ((31 * sq + 2 + 10 * p + 200 * v + 2000 * ct x 5) % 1000003) from eS] at hLR
                      refine mr_g X hT (fun hT' => mr_runS X hT' cb_RL_38 kw418 kw419 (As := [.ref o, .ref (ad 2), .int 2, .int (nI p), .int (nI v), .int (nI (ct x 5))]) (k_isStep hfl hM hX1 (s := sq) (n := ct x 32) (kd := 2) (p := p) (m := v) (tt := ct x 5) (by rw [zs_get, if_neg (by decide)]; exact (hR.2.2.1.2.2.2.2.2.2.2.2).trans esq) hsq (by rw [zs_get, if_neg (by decide)]; exact hR.2.2.1.2.2.2.2.2.2.2.1) (by decide) (by omega) (by omega) (by omega) g1 g2 g3) rfl rfl hl.1 ⟨Nat.le_of_ble_eq_true rfl, Nat.le_of_ble_eq_true rfl⟩ (Nat.le_of_ble_eq_true rfl) dL_isAsked_707 ⟨Nat.le_of_ble_eq_true rfl, Nat.le_of_ble_eq_true rfl⟩) (fun v M1 H locs hp hT => ?_)
                      obtain ⟨r, rfl, rfl, hM⟩ := hp
                      refine W.eq (g2 := F0 zm 710 ls (.int 1 :: _)) rfl ?_
                      refine lv_if_eq X.1 X.2.1 (tgt := 717) dL_isAsked_710 (by decide) (fun c710 => absurd c710 (by decide)) (fun _ => ?_)
                      refine lv_iconst X.1 X.2.1 (v := 1) dL_isAsked_713 (by decide) ?_
                      refine lv_goto X.1 X.2.1 (tgt := 718) dL_isAsked_714 (by decide) ?_
                      exact mr_zret X hT hret (by first | rfl | decide | exact bI_nar _) (⟨_, rfl, rfl, _, _, ⟨hLR, (LI.stl hI ak 2).write (k := 2) v5 (by decide) (by omega) (by omega), hq1, hT5, hH⟩, hM⟩) (Nat.le_of_ble_eq_true rfl) (Nat.le_of_ble_eq_true rfl) dL_isAsked_718
                · skip
                  refine lv_aload X.1 X.2.1 dL_isAsked_579 (lv_at hl 10 rfl) ?_
                  refine lv_iload X.1 X.2.1 dL_isAsked_581 (lv_at hl 0 rfl) ?_
                  refine lv_iconst X.1 X.2.1 (v := 3) dL_isAsked_583 (by decide) ?_
                  refine lv_iadd X.1 X.2.1 dL_isAsked_584 ?_
                  refine mm_top (w := nI (5 * ak + 3)) (nI_add (5 * ak) 3) ?_
                  refine ml_ald X hT hM (k := 4) (j := 5 * ak + 3) (by decide) (show 5 * ak + 3 < 60 by omega) dL_isAsked_585 ?_
                  refine mm_top (w := cg x 15 ak) (q4) ?_
                  refine lv_if_ne X.1 X.2.1 (tgt := 632) dL_isAsked_586 (by decide) (fun c586 => ?_) (fun c586 => ?_)
                  · skip
                    refine lv_iconst X.1 X.2.1 (v := 0) dL_isAsked_632 (by decide) ?_
                    refine W.widen (k := 0) (n := 0) (show ((0) : Nat) ≤ 0 by omega) (show ((0) : Nat) ≤ 0 by omega) ?_
                    exact J633 _ _ _ _ ⟨by first | (rw [decide_eq_false c586]; rfl) | (rw [decide_eq_true c586, d_nef c607]; rfl) | (rw [decide_eq_true c586, decide_eq_true c607, d625]; rfl), hM⟩ hT
                  · skip
                    refine lv_aload_n X.1 X.2.1 dL_isAsked_589 rfl (lv_at hl 6 rfl) ?_
                    refine lv_iconst X.1 X.2.1 (v := 2) dL_isAsked_590 (by decide) ?_
                    refine lv_iload X.1 X.2.1 dL_isAsked_591 (lv_at hl 4 rfl) ?_
                    refine lv_imul X.1 X.2.1 dL_isAsked_593 ?_
                    refine mm_top (w := nI (2 * p)) (pk_mul 2 p) ?_
                    refine ml_ald X hT hM (k := 0) (j := 2 * p) (by decide) (show 2 * p < 10 by omega) dL_isAsked_594 ?_
                    refine mm_top (w := cg x 0 p) ((hR.1 p hp5).1) ?_
                    refine lv_aload_n X.1 X.2.1 dL_isAsked_595 rfl (lv_at hl 6 rfl) ?_
                    refine lv_iconst X.1 X.2.1 (v := 2) dL_isAsked_596 (by decide) ?_
                    refine lv_aload X.1 X.2.1 dL_isAsked_597 (lv_at hl 10 rfl) ?_
                    refine lv_iload X.1 X.2.1 dL_isAsked_599 (lv_at hl 0 rfl) ?_
                    refine ml_ald X hT hM (k := 4) (j := 5 * ak) (by decide) (show 5 * ak < 60 by omega) dL_isAsked_601 ?_
                    refine mm_top (w := nI (8 * u + v)) (q1) ?_
                    refine lv_bipush X.1 X.2.1 (v := 8) dL_isAsked_602 (by decide) ?_
                    refine lv_idiv X.1 X.2.1 dL_isAsked_604 (by decide) ?_
                    refine mm_top (w := nI ((8 * u + v) / 8)) (pk_div (a := 8 * u + v) (d := 8) (by omega) (by omega) (by omega)) ?_
                    refine mm_top (w := nI u) (congrArg nI (show (8 * u + v) / 8 = u by omega)) ?_
                    refine lv_imul X.1 X.2.1 dL_isAsked_605 ?_
                    refine mm_top (w := nI (2 * u)) (pk_mul 2 u) ?_
                    refine ml_ald X hT hM (k := 0) (j := 2 * u) (by decide) (show 2 * u < 10 by omega) dL_isAsked_606 ?_
                    refine mm_top (w := cg x 0 u) ((hR.1 u hu5).1) ?_
                    refine lv_icmp_eq X.1 X.2.1 (tgt := 632) dL_isAsked_607 (by decide) (fun c607 => ?_) (fun c607 => ?_)
                    · skip
                      refine lv_iconst X.1 X.2.1 (v := 0) dL_isAsked_632 (by decide) ?_
                      refine W.widen (k := 0) (n := 0) (show ((0) : Nat) ≤ 0 by omega) (show ((0) : Nat) ≤ 0 by omega) ?_
                      exact J633 _ _ _ _ ⟨by first | (rw [decide_eq_false c586]; rfl) | (rw [decide_eq_true c586, d_nef c607]; rfl) | (rw [decide_eq_true c586, decide_eq_true c607, d625]; rfl), hM⟩ hT
                    · skip
                      refine lv_aload_n X.1 X.2.1 dL_isAsked_610 rfl (lv_at hl 6 rfl) ?_
                      refine lv_aload_n X.1 X.2.1 dL_isAsked_611 rfl (lv_at hl 7 rfl) ?_
                      refine lv_iload X.1 X.2.1 dL_isAsked_612 (lv_at hl 4 rfl) ?_
                      refine lv_aload X.1 X.2.1 dL_isAsked_614 (lv_at hl 10 rfl) ?_
                      refine lv_iload X.1 X.2.1 dL_isAsked_616 (lv_at hl 0 rfl) ?_
                      refine ml_ald X hT hM (k := 4) (j := 5 * ak) (by decide) (show 5 * ak < 60 by omega) dL_isAsked_618 ?_
                      refine mm_top (w := nI (8 * u + v)) (q1) ?_
                      refine lv_bipush X.1 X.2.1 (v := 8) dL_isAsked_619 (by decide) ?_
                      refine lv_irem X.1 X.2.1 dL_isAsked_621 (by decide) ?_
                      refine mm_top (w := nI ((8 * u + v) % 8)) (pk_rem (a := 8 * u + v) (d := 8) (by omega) (by omega) (by omega)) ?_
                      refine mm_top (w := nI v) (congrArg nI (show (8 * u + v) % 8 = v by omega)) ?_
                      refine mr_g X hT (fun hT' => mr_runS X hT' cb_RL_75 kw464 kw465 (As := [.ref (ad 0), .ref (ad 1), .int (nI p), .int (nI v)]) (k_may hfl hM hR hI hV (p := p) (m := v) hp5 hv3) rfl rfl hl.1 ⟨Nat.le_of_ble_eq_true rfl, Nat.le_of_ble_eq_true rfl⟩ (Nat.le_of_ble_eq_true rfl) dL_isAsked_622 ⟨Nat.le_of_ble_eq_true rfl, Nat.le_of_ble_eq_true rfl⟩) (fun v M1 H locs hp hT => ?_)
                      obtain ⟨r, rfl, rfl, hM⟩ := hp
                      refine W.eq (g2 := F0 zm 625 ls (.int (bI (q_has x (nI p) (nI v))) :: _)) rfl ?_
                      refine lv_if_eq X.1 X.2.1 (tgt := 632) dL_isAsked_625 (by decide) (fun c625 => ?_) (fun c625 => ?_)
                      · skip
                        have d625 : (q_has x (nI p) (nI v)) = false := bI_0.mp c625
                        refine lv_iconst X.1 X.2.1 (v := 0) dL_isAsked_632 (by decide) ?_
                        refine W.widen (k := 0) (n := 0) (show ((0 + 0) : Nat) ≤ 0 by omega) (show ((0 + 0) : Nat) ≤ 0 by omega) ?_
                        exact J633 _ _ _ _ ⟨by first | (rw [decide_eq_false c586]; rfl) | (rw [decide_eq_true c586, d_nef c607]; rfl) | (rw [decide_eq_true c586, decide_eq_true c607, d625]; rfl), hM⟩ hT
                      · skip
                        have d625 : (q_has x (nI p) (nI v)) = true := bI_n.mp c625
                        refine lv_iconst X.1 X.2.1 (v := 1) dL_isAsked_628 (by decide) ?_
                        refine lv_goto X.1 X.2.1 (tgt := 633) dL_isAsked_629 (by decide) ?_
                        refine W.widen (k := 0) (n := 0) (show ((0 + 0) : Nat) ≤ 0 by omega) (show ((0 + 0) : Nat) ≤ 0 by omega) ?_
                        exact J633 _ _ _ _ ⟨by first | (rw [decide_eq_false c586]; rfl) | (rw [decide_eq_true c586, d_nef c607]; rfl) | (rw [decide_eq_true c586, decide_eq_true c607, d625]; rfl), hM⟩ hT
              · skip
                refine lv_iload X.1 X.2.1 dL_isAsked_545 (lv_at hl 11 rfl) ?_
                refine lv_iconst X.1 X.2.1 (v := 5) dL_isAsked_547 (by decide) ?_
                refine lv_idiv X.1 X.2.1 dL_isAsked_548 (by decide) ?_
                refine mm_top (w := nI (zz / 5)) (pk_div (a := zz) (d := 5) (by omega) (by omega) (by omega)) ?_
                refine lv_iconst X.1 X.2.1 (v := 3) dL_isAsked_549 (by decide) ?_
                refine lv_irem X.1 X.2.1 dL_isAsked_550 (by decide) ?_
                refine mm_top (w := nI ((zz / 5) % 3)) (pk_rem (a := zz / 5) (d := 3) (by omega) (by omega) (by omega)) ?_
                refine lv_if_ne X.1 X.2.1 (tgt := 562) dL_isAsked_551 (by decide) (fun c551 => ?_) (fun c551 => ?_)
                · skip
                  have e551 : ¬ zz / 5 % 3 = 0 := fun h => c551 (by rw [h]; rfl)
                  refine lv_iload X.1 X.2.1 dL_isAsked_562 (lv_at hl 11 rfl) ?_
                  refine lv_bipush X.1 X.2.1 (v := 15) dL_isAsked_564 (by decide) ?_
                  refine lv_idiv X.1 X.2.1 dL_isAsked_566 (by decide) ?_
                  refine mm_top (w := nI (zz / 15)) (pk_div (a := zz) (d := 15) (by omega) (by omega) (by omega)) ?_
                  refine lv_aload_n X.1 X.2.1 dL_isAsked_567 rfl (lv_at hl 6 rfl) ?_
                  refine lv_iconst X.1 X.2.1 (v := 4) dL_isAsked_568 (by decide) ?_
                  refine ml_ald X hT hM (k := 2) (j := 4) (by decide) (by decide) dL_isAsked_569 ?_
                  refine mm_top (w := nI (ct x 17)) (hR.2.2.1.2.2.2.2.1) ?_
                  refine lv_irem X.1 X.2.1 dL_isAsked_570 (nI_ne0 (n := ct x 17) (by omega) (by omega)) ?_
                  refine mm_top (w := nI ((zz / 15) % (ct x 17))) (pk_rem (a := zz / 15) (d := ct x 17) (by omega) (by omega) (by omega)) ?_
                  refine W.widen (k := 0) (n := 0) (show ((0) : Nat) ≤ 0 by omega) (show ((0) : Nat) ≤ 0 by omega) ?_
                  exact J571 _ _ _ _ ⟨by first | exact congrArg nI (show ct x 17 - 1 = l_ak zz (ct x 17) by rw [l_ak, if_pos e551]) | exact congrArg nI (show zz / 15 % ct x 17 = l_ak zz (ct x 17) by rw [l_ak, if_neg e551]), hM⟩ hT
                · skip
                  have e551 : zz / 5 % 3 = 0 := (nI_eq (a := zz / 5 % 3) (b := 0) (by omega) (by omega)).mp c551
                  refine lv_aload_n X.1 X.2.1 dL_isAsked_554 rfl (lv_at hl 6 rfl) ?_
                  refine lv_iconst X.1 X.2.1 (v := 4) dL_isAsked_555 (by decide) ?_
                  refine ml_ald X hT hM (k := 2) (j := 4) (by decide) (by decide) dL_isAsked_556 ?_
                  refine mm_top (w := nI (ct x 17)) (hR.2.2.1.2.2.2.2.1) ?_
                  refine lv_iconst X.1 X.2.1 (v := 1) dL_isAsked_557 (by decide) ?_
                  refine lv_isub X.1 X.2.1 dL_isAsked_558 ?_
                  refine mm_top (w := nI (ct x 17 - 1)) (pk_sub (a := ct x 17) (b := 1) (by omega)) ?_
                  refine lv_goto X.1 X.2.1 (tgt := 571) dL_isAsked_559 (by decide) ?_
                  refine W.widen (k := 0) (n := 0) (show ((0) : Nat) ≤ 0 by omega) (show ((0) : Nat) ≤ 0 by omega) ?_
                  exact J571 _ _ _ _ ⟨by first | exact congrArg nI (show ct x 17 - 1 = l_ak zz (ct x 17) by rw [l_ak, if_pos e551]) | exact congrArg nI (show zz / 15 % ct x 17 = l_ak zz (ct x 17) by rw [l_ak, if_neg e551]), hM⟩ hT
            · skip
              refine lv_iconst X.1 X.2.1 (v := 1) dL_isAsked_543 (by decide) ?_
              exact mr_zret X hT hret (by first | rfl | decide | exact bI_nar _) (⟨_, rfl, rfl, _, _, ⟨hR, hI, st_same hq, hT5, hH⟩, hM⟩) (Nat.le_of_ble_eq_true rfl) (Nat.le_of_ble_eq_true rfl) dL_isAsked_544
        · skip
          refine lv_iload X.1 X.2.1 dL_isAsked_369 (lv_at hl 10 rfl) ?_
          refine lv_iconst X.1 X.2.1 (v := 2) dL_isAsked_371 (by decide) ?_
          refine lv_icmp_ne X.1 X.2.1 (tgt := 529) dL_isAsked_372 (by decide) (fun c372 => ?_) (fun c372 => ?_)
          · skip
            refine W.widen (k := 0) (n := 0) (show ((0) : Nat) ≤ 0 by omega) (show ((0) : Nat) ≤ 0 by omega) ?_
            exact J529 _ _ _ hM hT
          · skip
            refine lv_aload_n X.1 X.2.1 dL_isAsked_375 rfl (lv_at hl 6 rfl) ?_
            refine lv_iconst X.1 X.2.1 (v := 5) dL_isAsked_376 (by decide) ?_
            refine ml_ald X hT hM (k := 2) (j := 5) (by decide) (by decide) dL_isAsked_377 ?_
            refine mm_top (w := nI (ct x 22)) (hR.2.2.1.2.2.2.2.2.1) ?_
            refine lv_if_le X.1 X.2.1 (tgt := 529) dL_isAsked_378 (by decide) (fun c378 => ?_) (fun c378 => ?_)
            · skip
              refine W.widen (k := 0) (n := 0) (show ((0) : Nat) ≤ 0 by omega) (show ((0) : Nat) ≤ 0 by omega) ?_
              exact J529 _ _ _ hM hT
            · skip
              have e378 : 0 < ct x 22 := Nat.pos_of_ne_zero (fun h => c378 (by rw [h]; decide))
              refine lv_iload X.1 X.2.1 dL_isAsked_381 (lv_at hl 11 rfl) ?_
              refine lv_iconst X.1 X.2.1 (v := 5) dL_isAsked_383 (by decide) ?_
              refine lv_idiv X.1 X.2.1 dL_isAsked_384 (by decide) ?_
              refine mm_top (w := nI (zz / 5)) (pk_div (a := zz) (d := 5) (by omega) (by omega) (by omega)) ?_
              refine lv_aload_n X.1 X.2.1 dL_isAsked_385 rfl (lv_at hl 6 rfl) ?_
              refine lv_iconst X.1 X.2.1 (v := 5) dL_isAsked_386 (by decide) ?_
              refine ml_ald X hT hM (k := 2) (j := 5) (by decide) (by decide) dL_isAsked_387 ?_
              refine mm_top (w := nI (ct x 22)) (hR.2.2.1.2.2.2.2.2.1) ?_
              refine lv_irem X.1 X.2.1 dL_isAsked_388 (nI_ne0 (n := ct x 22) (by omega) (by omega)) ?_
              refine mm_top (w := nI ((zz / 5) % (ct x 22))) (pk_rem (a := zz / 5) (d := ct x 22) (by omega) (by omega) (by omega)) ?_
              obtain ⟨en, hen, een⟩ : ∃ en, en < ct x 22 ∧ zz / 5 % ct x 22 = en := ⟨_, Nat.mod_lt _ e378, rfl⟩
              obtain ⟨⟨u, hu, eu⟩, ⟨v, hv, ev⟩⟩ := hX.en hen
              obtain ⟨q1, q2, q3⟩ := hR.2.2.2.2.2.1 en hen
              rw [eu, ev, l_pr] at q1
              have hu5 : u < 5 := by omega
              refine mm_top (w := nI en) (congrArg nI een) ?_
              refine lv_istore X.1 X.2.1 dL_isAsked_389 hl (by decide) rfl (fun ls hl => ?_)
              refine mw_join hT 431 (0) (0) (fun r M1 => r = bI (decide (cg x 21 en = 0) && decide (cg x 0 p ≠ cg x 0 u)) ∧ LW G o ad x z M1) (fun r M1 H locs hp hT => ?_) (fun J431 => ?_)
              · obtain ⟨rfl, hM⟩ := hp
                refine lv_istore X.1 X.2.1 dL_isAsked_431 hl (by decide) rfl (fun ls hl => ?_)
                refine lv_aload X.1 X.2.1 dL_isAsked_433 (lv_at hl 11 rfl) ?_
                refine lv_iconst X.1 X.2.1 (v := 3) dL_isAsked_435 (by decide) ?_
                refine lv_iload X.1 X.2.1 dL_isAsked_436 (lv_at hl 1 rfl) ?_
                refine lv_imul X.1 X.2.1 dL_isAsked_438 ?_
                refine mm_top (w := nI (3 * en)) (pk_mul 3 en) ?_
                refine lv_iconst X.1 X.2.1 (v := 2) dL_isAsked_439 (by decide) ?_
                refine lv_iadd X.1 X.2.1 dL_isAsked_440 ?_
                refine mm_top (w := nI (3 * en + 2)) (nI_add (3 * en) 2) ?_
                refine lv_iload X.1 X.2.1 dL_isAsked_441 (lv_at hl 0 rfl) ?_
                refine lv_if_eq X.1 X.2.1 (tgt := 450) dL_isAsked_443 (by decide) (fun c443 => ?_) (fun c443 => ?_)
                · skip
                  have d443 : (decide (cg x 21 en = 0) && decide (cg x 0 p ≠ cg x 0 u)) = false := bI_0.mp c443
                  refine lv_aload X.1 X.2.1 dL_isAsked_450 (lv_at hl 11 rfl) ?_
                  refine lv_iconst X.1 X.2.1 (v := 3) dL_isAsked_452 (by decide) ?_
                  refine lv_iload X.1 X.2.1 dL_isAsked_453 (lv_at hl 1 rfl) ?_
                  refine lv_imul X.1 X.2.1 dL_isAsked_455 ?_
                  refine mm_top (w := nI (3 * en)) (pk_mul 3 en) ?_
                  refine lv_iconst X.1 X.2.1 (v := 2) dL_isAsked_456 (by decide) ?_
                  refine lv_iadd X.1 X.2.1 dL_isAsked_457 ?_
                  refine mm_top (w := nI (3 * en + 2)) (nI_add (3 * en) 2) ?_
                  refine ml_ald X hT hM (k := 5) (j := 3 * en + 2) (by decide) (show 3 * en + 2 < 60 by omega) dL_isAsked_458 ?_
                  refine mm_top (w := cg x 21 en) (q3) ?_
                  refine ml_ast X hT hM (k := 5) (j := 3 * en + 2) (by decide) (show 3 * en + 2 < 60 by omega) dL_isAsked_459 (fun M1 H locs hM hT => ?_)
                  refine lv_aload_n X.1 X.2.1 dL_isAsked_460 rfl (lv_at hl 5 rfl) ?_
                  refine lv_iload X.1 X.2.1 dL_isAsked_461 (lv_at hl 1 rfl) ?_
                  refine lv_iload X.1 X.2.1 dL_isAsked_463 (lv_at hl 4 rfl) ?_
                  have hk2 := l_c2 (l_lookc hI hen hp5 hu5 eu)
                  refine mr_gX X hT (fun hT' => mr_runSN X hex hT' cb_RL_94 kw580 kw581 (As := [.ref o, .int (nI en), .int (nI p)]) (k_looked hfl hM hX hk2.1) rfl rfl hl.1 ⟨Nat.le_of_ble_eq_true rfl, Nat.le_of_ble_eq_true rfl⟩ (Nat.le_of_ble_eq_true rfl) dL_isAsked_465 ⟨Nat.le_of_ble_eq_true rfl, Nat.le_of_ble_eq_true rfl⟩) (fun E ce9 q9 H locs hp hT h1 h2 h3 => absurd hp id) (fun v M1 H locs hp hT => ?_)
                  obtain ⟨r, rfl, hr, hM⟩ := hp
                  rw [if_neg (hk2.2.2 d443)] at hr hM
                  subst hr
                  refine W.eq (g2 := F0 zm 468 ls (.int ((-2)) :: _)) rfl ?_
                  refine lv_iload X.1 X.2.1 dL_isAsked_468 (lv_at hl 0 rfl) ?_
                  refine lv_if_eq X.1 X.2.1 (tgt := 489) dL_isAsked_470 (by decide) (fun _ => ?_) (fun c470 => absurd (by rw [d443]; decide) c470)
                  refine lv_bipush X.1 X.2.1 (v := -2) dL_isAsked_489 (by decide) ?_
                  refine lv_icmp_ne X.1 X.2.1 (tgt := 527) dL_isAsked_491 (by decide) (fun c491 => absurd c491 (fun h => h rfl)) (fun c491 => ?_)
                  refine lv_iload X.1 X.2.1 dL_isAsked_494 (lv_at hl 0 rfl) ?_
                  refine lv_if_eq X.1 X.2.1 (tgt := 523) dL_isAsked_496 (by decide) (fun _ => ?_) (fun c496 => absurd (by rw [d443]; decide) c496)
                  refine lv_iconst X.1 X.2.1 (v := 1) dL_isAsked_523 (by decide) ?_
                  refine lv_goto X.1 X.2.1 (tgt := 528) dL_isAsked_524 (by decide) ?_
                  have hLR := hR.s21 en (cg x 21 en)
                  rw [cs_id] at hLR
                  exact mr_zret X hT hret (by first | rfl | decide | exact bI_nar _) (⟨_, rfl, rfl, _, _, ⟨hLR, hI, st_same hq, hT5, hH⟩, hM⟩) (Nat.le_of_ble_eq_true rfl) (Nat.le_of_ble_eq_true rfl) dL_isAsked_528
                · skip
                  have d443 : (decide (cg x 21 en = 0) && decide (cg x 0 p ≠ cg x 0 u)) = true := bI_n.mp c443
                  refine lv_iconst X.1 X.2.1 (v := 1) dL_isAsked_446 (by decide) ?_
                  refine lv_goto X.1 X.2.1 (tgt := 459) dL_isAsked_447 (by decide) ?_
                  refine ml_ast X hT hM (k := 5) (j := 3 * en + 2) (by decide) (show 3 * en + 2 < 60 by omega) dL_isAsked_459 (fun M1 H locs hM hT => ?_)
                  refine lv_aload_n X.1 X.2.1 dL_isAsked_460 rfl (lv_at hl 5 rfl) ?_
                  refine lv_iload X.1 X.2.1 dL_isAsked_461 (lv_at hl 1 rfl) ?_
                  refine lv_iload X.1 X.2.1 dL_isAsked_463 (lv_at hl 4 rfl) ?_
                  have hk2 := l_c2 (l_lookc hI hen hp5 hu5 eu)
                  refine mr_gX X hT (fun hT' => mr_runSN X hex hT' cb_RL_94 kw580 kw581 (As := [.ref o, .int (nI en), .int (nI p)]) (k_looked hfl hM hX hk2.1) rfl rfl hl.1 ⟨Nat.le_of_ble_eq_true rfl, Nat.le_of_ble_eq_true rfl⟩ (Nat.le_of_ble_eq_true rfl) dL_isAsked_465 ⟨Nat.le_of_ble_eq_true rfl, Nat.le_of_ble_eq_true rfl⟩) (fun E ce9 q9 H locs hp hT h1 h2 h3 => absurd hp id) (fun v M1 H locs hp hT => ?_)
                  obtain ⟨r, rfl, hr, hM⟩ := hp
                  rw [if_pos (hk2.2.1 d443)] at hr hM
                  subst hr
                  refine W.eq (g2 := F0 zm 468 ls (.int (q_now x - cg x 20 (pn (nI en))) :: _)) rfl ?_
                  have hq1 := st_lookAt hq (show N ≤ 511 by omega) (hk2.2.1 d443)
                  have hX1 := q_inv_mono hq1.1 (show N + 1 ≤ 511 by omega)
                  refine mm_top (w := (nI (ct x 5)) - (cg x 20 en)) (by rw [pn_nI (show en < 2 ^ 31 by omega)]) ?_
                  have eX : f_lookAt_s x (nI en) (nI p) = q_write (cs x 21 en 1) 4 (nI p) (nI v) := by unfold f_lookAt_s; rw [pn_nI (show en < 2 ^ 31 by omega), ev]
                  rw [eX] at hM hq1 hX1
                  refine lv_iload X.1 X.2.1 dL_isAsked_468 (lv_at hl 0 rfl) ?_
                  refine lv_if_eq X.1 X.2.1 (tgt := 489) dL_isAsked_470 (by decide) (fun c470 => absurd c470 (by rw [d443]; decide)) (fun _ => ?_)
                  refine lv_aload_n X.1 X.2.1 dL_isAsked_473 rfl (lv_at hl 8 rfl) ?_
                  refine lv_iconst X.1 X.2.1 (v := 2) dL_isAsked_474 (by decide) ?_
                  refine ml_ald X hT hM (k := 2) (j := 2) (by decide) (by decide) dL_isAsked_475 ?_
                  refine mm_top (w := nI (ct x 5)) (by rw [zs_get, if_neg (by decide)]; exact hR.2.2.1.2.2.1) ?_
                  refine lv_aload X.1 X.2.1 dL_isAsked_476 (lv_at hl 11 rfl) ?_
                  refine lv_iconst X.1 X.2.1 (v := 3) dL_isAsked_478 (by decide) ?_
                  refine lv_iload X.1 X.2.1 dL_isAsked_479 (lv_at hl 1 rfl) ?_
                  refine lv_imul X.1 X.2.1 dL_isAsked_481 ?_
                  refine mm_top (w := nI (3 * en)) (pk_mul 3 en) ?_
                  refine lv_iconst X.1 X.2.1 (v := 1) dL_isAsked_482 (by decide) ?_
                  refine lv_iadd X.1 X.2.1 dL_isAsked_483 ?_
                  refine mm_top (w := nI (3 * en + 1)) (nI_add (3 * en) 1) ?_
                  refine ml_ald X hT hM (k := 5) (j := 3 * en + 1) (by decide) (show 3 * en + 1 < 60 by omega) dL_isAsked_484 ?_
                  refine mm_top (w := cg x 20 en) (by rw [zs_get, if_pos rfl, if_neg (by omega)]; exact q2) ?_
                  refine lv_isub X.1 X.2.1 dL_isAsked_485 ?_
                  refine lv_goto X.1 X.2.1 (tgt := 491) dL_isAsked_486 (by decide) ?_
                  refine lv_icmp_ne X.1 X.2.1 (tgt := 527) dL_isAsked_491 (by decide) (fun c491 => absurd c491 (fun h => h rfl)) (fun c491 => ?_)
                  refine lv_iload X.1 X.2.1 dL_isAsked_494 (lv_at hl 0 rfl) ?_
                  refine lv_if_eq X.1 X.2.1 (tgt := 523) dL_isAsked_496 (by decide) (fun c496 => absurd c496 (by rw [d443]; decide)) (fun _ => ?_)
                  refine lv_aload_n X.1 X.2.1 dL_isAsked_499 rfl (lv_at hl 5 rfl) ?_
                  refine lv_aload_n X.1 X.2.1 dL_isAsked_500 rfl (lv_at hl 8 rfl) ?_
                  refine lv_iconst X.1 X.2.1 (v := 4) dL_isAsked_501 (by decide) ?_
                  refine lv_iload X.1 X.2.1 dL_isAsked_502 (lv_at hl 4 rfl) ?_
                  refine lv_aload X.1 X.2.1 dL_isAsked_504 (lv_at hl 11 rfl) ?_
                  refine lv_iconst X.1 X.2.1 (v := 3) dL_isAsked_506 (by decide) ?_
                  refine lv_iload X.1 X.2.1 dL_isAsked_507 (lv_at hl 1 rfl) ?_
                  refine lv_imul X.1 X.2.1 dL_isAsked_509 ?_
                  refine mm_top (w := nI (3 * en)) (pk_mul 3 en) ?_
                  refine ml_ald X hT hM (k := 5) (j := 3 * en) (by decide) (show 3 * en < 60 by omega) dL_isAsked_510 ?_
                  refine mm_top (w := nI (8 * u + v)) (by rw [zs_get, if_pos rfl, if_neg (by omega)]; exact q1) ?_
                  refine lv_bipush X.1 X.2.1 (v := 8) dL_isAsked_511 (by decide) ?_
                  refine lv_irem X.1 X.2.1 dL_isAsked_513 (by decide) ?_
                  refine mm_top (w := nI ((8 * u + v) % 8)) (pk_rem (a := 8 * u + v) (d := 8) (by omega) (by omega) (by omega)) ?_
                  refine mm_top (w := nI v) (congrArg nI (show (8 * u + v) % 8 = v by omega)) ?_
                  refine lv_aload_n X.1 X.2.1 dL_isAsked_514 rfl (lv_at hl 8 rfl) ?_
                  refine lv_iconst X.1 X.2.1 (v := 2) dL_isAsked_515 (by decide) ?_
                  refine ml_ald X hT hM (k := 2) (j := 2) (by decide) (by decide) dL_isAsked_516 ?_
                  refine mm_top (w := nI (ct x 5)) (by rw [zs_get, if_neg (by decide)]; exact hR.2.2.1.2.2.1) ?_
                  have hx1 : q_ext (q_write (cs x 21 en 1) 4 (nI p) (nI v)) (q_write (cs x 21 en 1) 4 (nI p) (nI v)) := q_ext.rf _
                  obtain ⟨g1, g2, g3⟩ := q_ext_at hx1
                  have eS : q_seal x 4 (nI p) (nI v) = nI ((31 * sq + 4 + 10 * p + 200 * v + 2000 * ct x 5) % 1000003) := q_seal_nI (k := 4) esq hsq (by decide) (by omega) (by omega) (by omega)
                  have g3 : cg (q_write (cs x 21 en 1) 4 (nI p) (nI v)) 31 (ct x 32) = nI ((31 * sq + 4 + 10 * p + 200 * v + 2000 * ct x 5) % 1000003) := g3.trans eS
                  have hLR := (hR.s21 en 1).write 4 (nI p) (nI v)
                  rw [show q_seal (cs x 21 en 1) 4 (nI p) (nI v) = nI ((31 * sq + 4 + 10 * p + 200 * v + 2000 * ct x 5) % 1000003) from eS] at hLR
                  refine mr_g X hT (fun hT' => mr_runS X hT' cb_RL_38 kw418 kw419 (As := [.ref o, .ref (ad 2), .int 4, .int (nI p), .int (nI v), .int (nI (ct x 5))]) (k_isStep hfl hM hX1 (s := sq) (n := ct x 32) (kd := 4) (p := p) (m := v) (tt := ct x 5) (by rw [zs_get, if_neg (by decide)]; exact (hR.2.2.1.2.2.2.2.2.2.2.2).trans esq) hsq (by rw [zs_get, if_neg (by decide)]; exact hR.2.2.1.2.2.2.2.2.2.2.1) (by decide) (by omega) (by omega) (by omega) g1 g2 g3) rfl rfl hl.1 ⟨Nat.le_of_ble_eq_true rfl, Nat.le_of_ble_eq_true rfl⟩ (Nat.le_of_ble_eq_true rfl) dL_isAsked_517 ⟨Nat.le_of_ble_eq_true rfl, Nat.le_of_ble_eq_true rfl⟩) (fun v M1 H locs hp hT => ?_)
                  obtain ⟨r, rfl, rfl, hM⟩ := hp
                  refine W.eq (g2 := F0 zm 520 ls (.int 1 :: _)) rfl ?_
                  refine lv_if_eq X.1 X.2.1 (tgt := 527) dL_isAsked_520 (by decide) (fun c520 => absurd c520 (by decide)) (fun _ => ?_)
                  refine lv_iconst X.1 X.2.1 (v := 1) dL_isAsked_523 (by decide) ?_
                  refine lv_goto X.1 X.2.1 (tgt := 528) dL_isAsked_524 (by decide) ?_
                  exact mr_zret X hT hret (by first | rfl | decide | exact bI_nar _) (⟨_, rfl, rfl, _, _, ⟨hLR, (LI.look hI en).write (k := 4) v5 (by decide) (by omega) (by omega), hq1, hT5, hH⟩, hM⟩) (Nat.le_of_ble_eq_true rfl) (Nat.le_of_ble_eq_true rfl) dL_isAsked_528
              · skip
                refine lv_aload X.1 X.2.1 dL_isAsked_391 (lv_at hl 10 rfl) ?_
                refine lv_iconst X.1 X.2.1 (v := 3) dL_isAsked_393 (by decide) ?_
                refine lv_iload X.1 X.2.1 dL_isAsked_394 (lv_at hl 0 rfl) ?_
                refine lv_imul X.1 X.2.1 dL_isAsked_396 ?_
                refine mm_top (w := nI (3 * en)) (pk_mul 3 en) ?_
                refine lv_iconst X.1 X.2.1 (v := 2) dL_isAsked_397 (by decide) ?_
                refine lv_iadd X.1 X.2.1 dL_isAsked_398 ?_
                refine mm_top (w := nI (3 * en + 2)) (nI_add (3 * en) 2) ?_
                refine ml_ald X hT hM (k := 5) (j := 3 * en + 2) (by decide) (show 3 * en + 2 < 60 by omega) dL_isAsked_399 ?_
                refine mm_top (w := cg x 21 en) (q3) ?_
                refine lv_if_ne X.1 X.2.1 (tgt := 430) dL_isAsked_400 (by decide) (fun c400 => ?_) (fun c400 => ?_)
                · skip
                  refine lv_iconst X.1 X.2.1 (v := 0) dL_isAsked_430 (by decide) ?_
                  refine W.widen (k := 0) (n := 0) (show ((0) : Nat) ≤ 0 by omega) (show ((0) : Nat) ≤ 0 by omega) ?_
                  exact J431 _ _ _ _ ⟨by first | (rw [decide_eq_false c400]; rfl) | (rw [decide_eq_true c400, d_nef c423]; rfl) | (rw [decide_eq_true c400, decide_eq_true c423]; rfl), hM⟩ hT
                · skip
                  refine lv_aload_n X.1 X.2.1 dL_isAsked_403 rfl (lv_at hl 5 rfl) ?_
                  refine lv_iconst X.1 X.2.1 (v := 2) dL_isAsked_404 (by decide) ?_
                  refine lv_iload X.1 X.2.1 dL_isAsked_405 (lv_at hl 3 rfl) ?_
                  refine lv_imul X.1 X.2.1 dL_isAsked_407 ?_
                  refine mm_top (w := nI (2 * p)) (pk_mul 2 p) ?_
                  refine ml_ald X hT hM (k := 0) (j := 2 * p) (by decide) (show 2 * p < 10 by omega) dL_isAsked_408 ?_
                  refine mm_top (w := cg x 0 p) ((hR.1 p hp5).1) ?_
                  refine lv_aload_n X.1 X.2.1 dL_isAsked_409 rfl (lv_at hl 5 rfl) ?_
                  refine lv_iconst X.1 X.2.1 (v := 2) dL_isAsked_410 (by decide) ?_
                  refine lv_aload X.1 X.2.1 dL_isAsked_411 (lv_at hl 10 rfl) ?_
                  refine lv_iconst X.1 X.2.1 (v := 3) dL_isAsked_413 (by decide) ?_
                  refine lv_iload X.1 X.2.1 dL_isAsked_414 (lv_at hl 0 rfl) ?_
                  refine lv_imul X.1 X.2.1 dL_isAsked_416 ?_
                  refine mm_top (w := nI (3 * en)) (pk_mul 3 en) ?_
                  refine ml_ald X hT hM (k := 5) (j := 3 * en) (by decide) (show 3 * en < 60 by omega) dL_isAsked_417 ?_
                  refine mm_top (w := nI (8 * u + v)) (q1) ?_
                  refine lv_bipush X.1 X.2.1 (v := 8) dL_isAsked_418 (by decide) ?_
                  refine lv_idiv X.1 X.2.1 dL_isAsked_420 (by decide) ?_
                  refine mm_top (w := nI ((8 * u + v) / 8)) (pk_div (a := 8 * u + v) (d := 8) (by omega) (by omega) (by omega)) ?_
                  refine mm_top (w := nI u) (congrArg nI (show (8 * u + v) / 8 = u by omega)) ?_
                  refine lv_imul X.1 X.2.1 dL_isAsked_421 ?_
                  refine mm_top (w := nI (2 * u)) (pk_mul 2 u) ?_
                  refine ml_ald X hT hM (k := 0) (j := 2 * u) (by decide) (show 2 * u < 10 by omega) dL_isAsked_422 ?_
                  refine mm_top (w := cg x 0 u) ((hR.1 u hu5).1) ?_
                  refine lv_icmp_eq X.1 X.2.1 (tgt := 430) dL_isAsked_423 (by decide) (fun c423 => ?_) (fun c423 => ?_)
                  · skip
                    refine lv_iconst X.1 X.2.1 (v := 0) dL_isAsked_430 (by decide) ?_
                    refine W.widen (k := 0) (n := 0) (show ((0) : Nat) ≤ 0 by omega) (show ((0) : Nat) ≤ 0 by omega) ?_
                    exact J431 _ _ _ _ ⟨by first | (rw [decide_eq_false c400]; rfl) | (rw [decide_eq_true c400, d_nef c423]; rfl) | (rw [decide_eq_true c400, decide_eq_true c423]; rfl), hM⟩ hT
                  · skip
                    refine lv_iconst X.1 X.2.1 (v := 1) dL_isAsked_426 (by decide) ?_
                    refine lv_goto X.1 X.2.1 (tgt := 431) dL_isAsked_427 (by decide) ?_
                    refine W.widen (k := 0) (n := 0) (show ((0) : Nat) ≤ 0 by omega) (show ((0) : Nat) ≤ 0 by omega) ?_
                    exact J431 _ _ _ _ ⟨by first | (rw [decide_eq_false c400]; rfl) | (rw [decide_eq_true c400, d_nef c423]; rfl) | (rw [decide_eq_true c400, decide_eq_true c423]; rfl), hM⟩ hT
      · skip
        refine lv_iload X.1 X.2.1 dL_isAsked_222 (lv_at hl 10 rfl) ?_
        refine lv_iconst X.1 X.2.1 (v := 1) dL_isAsked_224 (by decide) ?_
        refine lv_icmp_ne X.1 X.2.1 (tgt := 369) dL_isAsked_225 (by decide) (fun c225 => ?_) (fun c225 => ?_)
        · skip
          refine W.widen (k := 0) (n := 0) (show ((0) : Nat) ≤ 0 by omega) (show ((0) : Nat) ≤ 0 by omega) ?_
          exact J369 _ _ _ hM hT
        · skip
          refine lv_aload_n X.1 X.2.1 dL_isAsked_228 rfl (lv_at hl 6 rfl) ?_
          refine lv_iconst X.1 X.2.1 (v := 5) dL_isAsked_229 (by decide) ?_
          refine ml_ald X hT hM (k := 2) (j := 5) (by decide) (by decide) dL_isAsked_230 ?_
          refine mm_top (w := nI (ct x 22)) (hR.2.2.1.2.2.2.2.2.1) ?_
          refine lv_bipush X.1 X.2.1 (v := 20) dL_isAsked_231 (by decide) ?_
          refine lv_icmp_ge X.1 X.2.1 (tgt := 369) dL_isAsked_233 (by decide) (fun c233 => ?_) (fun c233 => ?_)
          · skip
            refine W.widen (k := 0) (n := 0) (show ((0) : Nat) ≤ 0 by omega) (show ((0) : Nat) ≤ 0 by omega) ?_
            exact J369 _ _ _ hM hT
          · skip
            have e233 : ct x 22 < 20 := Nat.lt_of_not_le (fun h => c233 ((nI_leI (a := 20) (by omega) (by omega)).mpr h))
            refine lv_aload_n X.1 X.2.1 dL_isAsked_236 rfl (lv_at hl 6 rfl) ?_
            refine lv_iconst X.1 X.2.1 (v := 3) dL_isAsked_237 (by decide) ?_
            refine ml_ald X hT hM (k := 2) (j := 3) (by decide) (by decide) dL_isAsked_238 ?_
            refine mm_top (w := nI (ct x 10)) (hR.2.2.1.2.2.2.1) ?_
            refine lv_bipush X.1 X.2.1 (v := 20) dL_isAsked_239 (by decide) ?_
            refine lv_icmp_ge X.1 X.2.1 (tgt := 369) dL_isAsked_241 (by decide) (fun c241 => ?_) (fun c241 => ?_)
            · skip
              refine W.widen (k := 0) (n := 0) (show ((0) : Nat) ≤ 0 by omega) (show ((0) : Nat) ≤ 0 by omega) ?_
              exact J369 _ _ _ hM hT
            · skip
              have e241 : ct x 10 < 20 := Nat.lt_of_not_le (fun h => c241 ((nI_leI (a := 20) (by omega) (by omega)).mpr h))
              refine lv_iload X.1 X.2.1 dL_isAsked_244 (lv_at hl 0 rfl) ?_
              refine lv_if_ne X.1 X.2.1 (tgt := 268) dL_isAsked_246 (by decide) (fun c246 => ?_) (fun c246 => ?_)
              · skip
                have d246 : (q_has x (nI p) (nI q) && decide (q_over x (nI p) (ct x 22) = 0)) = true := bI_n.mp c246
                refine lv_aload X.1 X.2.1 dL_isAsked_268 (lv_at hl 9 rfl) ?_
                refine lv_iconst X.1 X.2.1 (v := 3) dL_isAsked_270 (by decide) ?_
                refine lv_aload_n X.1 X.2.1 dL_isAsked_271 rfl (lv_at hl 6 rfl) ?_
                refine lv_iconst X.1 X.2.1 (v := 5) dL_isAsked_272 (by decide) ?_
                refine ml_ald X hT hM (k := 2) (j := 5) (by decide) (by decide) dL_isAsked_273 ?_
                refine mm_top (w := nI (ct x 22)) (hR.2.2.1.2.2.2.2.2.1) ?_
                refine lv_imul X.1 X.2.1 dL_isAsked_274 ?_
                refine mm_top (w := nI (3 * (ct x 22))) (pk_mul 3 (ct x 22)) ?_
                refine lv_bipush X.1 X.2.1 (v := 8) dL_isAsked_275 (by decide) ?_
                refine lv_iload X.1 X.2.1 dL_isAsked_277 (lv_at hl 2 rfl) ?_
                refine lv_imul X.1 X.2.1 dL_isAsked_279 ?_
                refine mm_top (w := nI (8 * p)) (pk_mul 8 p) ?_
                refine lv_iload X.1 X.2.1 dL_isAsked_280 (lv_at hl 1 rfl) ?_
                refine lv_iadd X.1 X.2.1 dL_isAsked_282 ?_
                refine mm_top (w := nI (8 * p + q)) (nI_add (8 * p) q) ?_
                refine ml_ast X hT hM (k := 5) (j := 3 * (ct x 22)) (by decide) (show 3 * (ct x 22) < 60 by omega) dL_isAsked_283 (fun M1 H locs hM hT => ?_)
                refine lv_aload X.1 X.2.1 dL_isAsked_284 (lv_at hl 9 rfl) ?_
                refine lv_iconst X.1 X.2.1 (v := 3) dL_isAsked_286 (by decide) ?_
                refine lv_aload_n X.1 X.2.1 dL_isAsked_287 rfl (lv_at hl 6 rfl) ?_
                refine lv_iconst X.1 X.2.1 (v := 5) dL_isAsked_288 (by decide) ?_
                refine ml_ald X hT hM (k := 2) (j := 5) (by decide) (by decide) dL_isAsked_289 ?_
                refine mm_top (w := nI (ct x 22)) (by rw [zs_get, if_neg (by decide)]; exact hR.2.2.1.2.2.2.2.2.1) ?_
                refine lv_imul X.1 X.2.1 dL_isAsked_290 ?_
                refine mm_top (w := nI (3 * (ct x 22))) (pk_mul 3 (ct x 22)) ?_
                refine lv_iconst X.1 X.2.1 (v := 1) dL_isAsked_291 (by decide) ?_
                refine lv_iadd X.1 X.2.1 dL_isAsked_292 ?_
                refine mm_top (w := nI (3 * (ct x 22) + 1)) (nI_add (3 * (ct x 22)) 1) ?_
                refine lv_aload_n X.1 X.2.1 dL_isAsked_293 rfl (lv_at hl 6 rfl) ?_
                refine lv_iconst X.1 X.2.1 (v := 2) dL_isAsked_294 (by decide) ?_
                refine ml_ald X hT hM (k := 2) (j := 2) (by decide) (by decide) dL_isAsked_295 ?_
                refine mm_top (w := nI (ct x 5)) (by rw [zs_get, if_neg (by decide)]; exact hR.2.2.1.2.2.1) ?_
                refine ml_ast X hT hM (k := 5) (j := 3 * (ct x 22) + 1) (by decide) (show 3 * (ct x 22) + 1 < 60 by omega) dL_isAsked_296 (fun M1 H locs hM hT => ?_)
                refine lv_aload X.1 X.2.1 dL_isAsked_297 (lv_at hl 9 rfl) ?_
                refine lv_iconst X.1 X.2.1 (v := 3) dL_isAsked_299 (by decide) ?_
                refine lv_aload_n X.1 X.2.1 dL_isAsked_300 rfl (lv_at hl 6 rfl) ?_
                refine lv_iconst X.1 X.2.1 (v := 5) dL_isAsked_301 (by decide) ?_
                refine ml_ald X hT hM (k := 2) (j := 5) (by decide) (by decide) dL_isAsked_302 ?_
                refine mm_top (w := nI (ct x 22)) (by rw [zs_get, if_neg (by decide), zs_get, if_neg (by decide)]; exact hR.2.2.1.2.2.2.2.2.1) ?_
                refine lv_imul X.1 X.2.1 dL_isAsked_303 ?_
                refine mm_top (w := nI (3 * (ct x 22))) (pk_mul 3 (ct x 22)) ?_
                refine lv_iconst X.1 X.2.1 (v := 2) dL_isAsked_304 (by decide) ?_
                refine lv_iadd X.1 X.2.1 dL_isAsked_305 ?_
                refine mm_top (w := nI (3 * (ct x 22) + 2)) (nI_add (3 * (ct x 22)) 2) ?_
                refine lv_iconst X.1 X.2.1 (v := 0) dL_isAsked_306 (by decide) ?_
                refine ml_ast X hT hM (k := 5) (j := 3 * (ct x 22) + 2) (by decide) (show 3 * (ct x 22) + 2 < 60 by omega) dL_isAsked_307 (fun M1 H locs hM hT => ?_)
                refine lv_aload_n X.1 X.2.1 dL_isAsked_308 rfl (lv_at hl 6 rfl) ?_
                refine lv_iconst X.1 X.2.1 (v := 5) dL_isAsked_309 (by decide) ?_
                refine lv_dup2_11 X.1 X.2.1 dL_isAsked_310 rfl rfl ?_
                refine ml_ald X hT hM (k := 2) (j := 5) (by decide) (by decide) dL_isAsked_311 ?_
                refine mm_top (w := nI (ct x 22)) (by rw [zs_get, if_neg (by decide), zs_get, if_neg (by decide), zs_get, if_neg (by decide)]; exact hR.2.2.1.2.2.2.2.2.1) ?_
                refine lv_iconst X.1 X.2.1 (v := 1) dL_isAsked_312 (by decide) ?_
                refine lv_iadd X.1 X.2.1 dL_isAsked_313 ?_
                refine mm_top (w := nI (ct x 22 + 1)) (nI_add (ct x 22) 1) ?_
                refine ml_ast X hT hM (k := 2) (j := 5) (by decide) (by decide) dL_isAsked_314 (fun M1 H locs hM hT => ?_)
                refine lv_aload X.1 X.2.1 dL_isAsked_315 (lv_at hl 7 rfl) ?_
                refine lv_aload_n X.1 X.2.1 dL_isAsked_317 rfl (lv_at hl 6 rfl) ?_
                refine lv_bipush X.1 X.2.1 (v := 8) dL_isAsked_318 (by decide) ?_
                refine lv_iload X.1 X.2.1 dL_isAsked_320 (lv_at hl 2 rfl) ?_
                refine lv_imul X.1 X.2.1 dL_isAsked_322 ?_
                refine mm_top (w := nI (8 * p)) (pk_mul 8 p) ?_
                refine lv_iload X.1 X.2.1 dL_isAsked_323 (lv_at hl 1 rfl) ?_
                refine lv_iadd X.1 X.2.1 dL_isAsked_325 ?_
                refine mm_top (w := nI (8 * p + q)) (nI_add (8 * p) q) ?_
                refine lv_bipush X.1 X.2.1 (v := 30) dL_isAsked_326 (by decide) ?_
                have hz21 := hq.1.2.2.2.2.2.2.1 (ct x 22) (Nat.le_refl _)
                have hR2 := LR.ent0 (p := p) (m := q) hR hz21
                refine mr_g X hT (fun hT' => mr_runS X hT' cb_RL_90 kw577 kw578 (As := [.ref (ad 3), .ref (ad 2), .int (nI (8 * p + q)), .int 30]) (k_give hfl hM hR2 (u := p) (v := q) (t := 30) (show ct x 10 ≤ 20 by omega)) rfl rfl hl.1 ⟨Nat.le_of_ble_eq_true rfl, Nat.le_of_ble_eq_true rfl⟩ (Nat.le_of_ble_eq_true rfl) dL_isAsked_328 ⟨Nat.le_of_ble_eq_true rfl, Nat.le_of_ble_eq_true rfl⟩) (fun v M1 H locs hp hT => ?_)
                obtain ⟨rfl, z1, hR1, hM⟩ := hp
                refine W.eq (g2 := F0 zm 331 ls _) rfl ?_
                refine lv_aload_n X.1 X.2.1 dL_isAsked_331 rfl (lv_at hl 3 rfl) ?_
                refine lv_iload X.1 X.2.1 dL_isAsked_332 (lv_at hl 2 rfl) ?_
                refine lv_iload X.1 X.2.1 dL_isAsked_334 (lv_at hl 1 rfl) ?_
                have hk2 := l_c2 (l_entc hI hp5 hq3)
                refine mr_gX X hT (fun hT' => mr_runSN X hex hT' cb_RL_86 kw529 kw530 (As := [.ref o, .int (nI p), .int (nI q)]) (k_entered hfl hM hX hk2.1) rfl rfl hl.1 ⟨Nat.le_of_ble_eq_true rfl, Nat.le_of_ble_eq_true rfl⟩ (Nat.le_of_ble_eq_true rfl) dL_isAsked_336 ⟨Nat.le_of_ble_eq_true rfl, Nat.le_of_ble_eq_true rfl⟩) (fun E ce9 q9 H locs hp hT h1 h2 h3 => absurd hp id) (fun v M1 H locs hp hT => ?_)
                obtain ⟨r, rfl, hr, hM⟩ := hp
                rw [if_pos (hk2.2.1 d246)] at hr hM
                subst hr
                refine W.eq (g2 := F0 zm 339 ls (.int (nI (ct x 22)) :: _)) rfl ?_
                have hq1 := st_enter hq (hk2.2.1 d246)
                have hX1 := q_inv_mono hq1.1 (show N + 1 ≤ 511 by omega)
                refine lv_aload_n X.1 X.2.1 dL_isAsked_339 rfl (lv_at hl 6 rfl) ?_
                refine lv_iconst X.1 X.2.1 (v := 5) dL_isAsked_340 (by decide) ?_
                refine ml_ald X hT hM (k := 2) (j := 5) (by decide) (by decide) dL_isAsked_341 ?_
                refine mm_top (w := nI (ct x 22 + 1)) (hR1.2.2.1.2.2.2.2.2.1) ?_
                refine lv_iconst X.1 X.2.1 (v := 1) dL_isAsked_342 (by decide) ?_
                refine lv_isub X.1 X.2.1 dL_isAsked_343 ?_
                refine mm_top (w := nI (ct x 22)) (nI_pred (ct x 22)) ?_
                refine lv_icmp_ne X.1 X.2.1 (tgt := 367) dL_isAsked_344 (by decide) (fun c344 => absurd c344 (fun h => h rfl)) (fun c344 => ?_)
                refine lv_aload_n X.1 X.2.1 dL_isAsked_347 rfl (lv_at hl 3 rfl) ?_
                refine lv_aload_n X.1 X.2.1 dL_isAsked_348 rfl (lv_at hl 6 rfl) ?_
                refine lv_iconst X.1 X.2.1 (v := 3) dL_isAsked_349 (by decide) ?_
                refine lv_iload X.1 X.2.1 dL_isAsked_350 (lv_at hl 2 rfl) ?_
                refine lv_iload X.1 X.2.1 dL_isAsked_352 (lv_at hl 1 rfl) ?_
                refine lv_aload_n X.1 X.2.1 dL_isAsked_354 rfl (lv_at hl 6 rfl) ?_
                refine lv_iconst X.1 X.2.1 (v := 2) dL_isAsked_355 (by decide) ?_
                refine ml_ald X hT hM (k := 2) (j := 2) (by decide) (by decide) dL_isAsked_356 ?_
                refine mm_top (w := nI (ct x 5)) (hR1.2.2.1.2.2.1) ?_
                have hx1 : q_ext (q_write (q_grant (ss (cs (cs (cs x 18 (ct x 22) (nI p)) 19 (ct x 22) (nI q)) 20 (ct x 22) (q_now x)) 22 (ct x 22 + 1)) (nI p) (nI q) 30) 3 (nI p) (nI q)) (f_enter_s x (nI p) (nI q)) := q_ext.rf _
                obtain ⟨g1, g2, g3⟩ := q_ext_at hx1
                have eS : q_seal x 3 (nI p) (nI q) = nI ((31 * sq + 3 + 10 * p + 200 * q + 2000 * ct x 5) % 1000003) := q_seal_nI (k := 3) esq hsq (by decide) (by omega) (by omega) (by omega)
                have g3 : cg (f_enter_s x (nI p) (nI q)) 31 (ct x 32) = nI ((31 * sq + 3 + 10 * p + 200 * q + 2000 * ct x 5) % 1000003) := g3.trans eS
                have hLR := (hR1).write 3 (nI p) (nI q)
                rw [show q_seal (q_grant (ss (cs (cs (cs x 18 (ct x 22) (nI p)) 19 (ct x 22) (nI q)) 20 (ct x 22) (q_now x)) 22 (ct x 22 + 1)) (nI p) (nI q) 30) 3 (nI p) (nI q) = nI ((31 * sq + 3 + 10 * p + 200 * q + 2000 * ct x 5) % 1000003) from eS] at hLR
                refine mr_g X hT (fun hT' => mr_runS X hT' cb_RL_38 kw418 kw419 (As := [.ref o, .ref (ad 2), .int 3, .int (nI p), .int (nI q), .int (nI (ct x 5))]) (k_isStep hfl hM hX1 (s := sq) (n := ct x 32) (kd := 3) (p := p) (m := q) (tt := ct x 5) (by exact (hR1.2.2.1.2.2.2.2.2.2.2.2).trans esq) hsq (by exact hR1.2.2.1.2.2.2.2.2.2.2.1) (by decide) (by omega) (by omega) (by omega) g1 g2 g3) rfl rfl hl.1 ⟨Nat.le_of_ble_eq_true rfl, Nat.le_of_ble_eq_true rfl⟩ (Nat.le_of_ble_eq_true rfl) dL_isAsked_357 ⟨Nat.le_of_ble_eq_true rfl, Nat.le_of_ble_eq_true rfl⟩) (fun v M1 H locs hp hT => ?_)
                obtain ⟨r, rfl, rfl, hM⟩ := hp
                refine W.eq (g2 := F0 zm 360 ls (.int 1 :: _)) rfl ?_
                refine lv_if_eq X.1 X.2.1 (tgt := 367) dL_isAsked_360 (by decide) (fun c360 => absurd c360 (by decide)) (fun _ => ?_)
                refine lv_iconst X.1 X.2.1 (v := 1) dL_isAsked_363 (by decide) ?_
                refine lv_goto X.1 X.2.1 (tgt := 368) dL_isAsked_364 (by decide) ?_
                exact mr_zret X hT hret (by first | rfl | decide | exact bI_nar _) (⟨_, rfl, rfl, _, _, ⟨hLR, (LI.grant (LI.ent0 (p := p) (m := q) hI e233 hz21) e241).write (k := 3) v5 (by decide) (by omega) (by omega), hq1, hT5, hH⟩, hM⟩) (Nat.le_of_ble_eq_true rfl) (Nat.le_of_ble_eq_true rfl) dL_isAsked_368
              · skip
                have d246 : (q_has x (nI p) (nI q) && decide (q_over x (nI p) (ct x 22) = 0)) = false := bI_0.mp c246
                refine lv_aload_n X.1 X.2.1 dL_isAsked_249 rfl (lv_at hl 3 rfl) ?_
                refine lv_iload X.1 X.2.1 dL_isAsked_250 (lv_at hl 2 rfl) ?_
                refine lv_iload X.1 X.2.1 dL_isAsked_252 (lv_at hl 1 rfl) ?_
                have hk2 := l_c2 (l_entc hI hp5 hq3)
                refine mr_gX X hT (fun hT' => mr_runSN X hex hT' cb_RL_86 kw529 kw530 (As := [.ref o, .int (nI p), .int (nI q)]) (k_entered hfl hM hX hk2.1) rfl rfl hl.1 ⟨Nat.le_of_ble_eq_true rfl, Nat.le_of_ble_eq_true rfl⟩ (Nat.le_of_ble_eq_true rfl) dL_isAsked_254 ⟨Nat.le_of_ble_eq_true rfl, Nat.le_of_ble_eq_true rfl⟩) (fun E ce9 q9 H locs hp hT h1 h2 h3 => absurd hp id) (fun v M1 H locs hp hT => ?_)
                obtain ⟨r, rfl, hr, hM⟩ := hp
                rw [if_neg (hk2.2.2 d246)] at hr hM
                subst hr
                refine W.eq (g2 := F0 zm 257 ls (.int ((-2)) :: _)) rfl ?_
                refine lv_bipush X.1 X.2.1 (v := -2) dL_isAsked_257 (by decide) ?_
                refine lv_icmp_ne X.1 X.2.1 (tgt := 266) dL_isAsked_259 (by decide) (fun c259 => absurd c259 (by decide)) (fun _ => ?_)
                refine lv_iconst X.1 X.2.1 (v := 1) dL_isAsked_262 (by decide) ?_
                refine lv_goto X.1 X.2.1 (tgt := 267) dL_isAsked_263 (by decide) ?_
                exact mr_zret X hT hret (by first | rfl | decide | exact bI_nar _) (⟨_, rfl, rfl, _, _, ⟨hR, hI, st_same hq, hT5, hH⟩, hM⟩) (Nat.le_of_ble_eq_true rfl) (Nat.le_of_ble_eq_true rfl) dL_isAsked_267
    · skip
      refine lv_iload X.1 X.2.1 dL_isAsked_48 (lv_at hl 10 rfl) ?_
      refine lv_if_ne X.1 X.2.1 (tgt := 222) dL_isAsked_50 (by decide) (fun c50 => ?_) (fun c50 => ?_)
      · skip
        have e50 : ¬ wy = 0 := fun h => c50 (by rw [h]; rfl)
        refine W.widen (k := 0) (n := 0) (show ((0) : Nat) ≤ 0 by omega) (show ((0) : Nat) ≤ 0 by omega) ?_
        exact J222 _ _ _ hM hT
      · skip
        have e50 : wy = 0 := (nI_eq (a := wy) (b := 0) (by omega) (by omega)).mp c50
        refine lv_aload_n X.1 X.2.1 dL_isAsked_53 rfl (lv_at hl 6 rfl) ?_
        refine lv_iconst X.1 X.2.1 (v := 4) dL_isAsked_54 (by decide) ?_
        refine ml_ald X hT hM (k := 2) (j := 4) (by decide) (by decide) dL_isAsked_55 ?_
        refine mm_top (w := nI (ct x 17)) (hR.2.2.1.2.2.2.2.1) ?_
        refine lv_bipush X.1 X.2.1 (v := 12) dL_isAsked_56 (by decide) ?_
        refine lv_icmp_ge X.1 X.2.1 (tgt := 222) dL_isAsked_58 (by decide) (fun c58 => ?_) (fun c58 => ?_)
        · skip
          refine W.widen (k := 0) (n := 0) (show ((0) : Nat) ≤ 0 by omega) (show ((0) : Nat) ≤ 0 by omega) ?_
          exact J222 _ _ _ hM hT
        · skip
          have e58 : ct x 17 < 12 := Nat.lt_of_not_le (fun h => c58 ((nI_leI (a := 12) (by omega) (by omega)).mpr h))
          refine lv_iconst X.1 X.2.1 (v := 1) dL_isAsked_61 (by decide) ?_
          refine lv_iload X.1 X.2.1 dL_isAsked_62 (lv_at hl 11 rfl) ?_
          refine lv_bipush X.1 X.2.1 (v := 15) dL_isAsked_64 (by decide) ?_
          refine lv_idiv X.1 X.2.1 dL_isAsked_66 (by decide) ?_
          refine mm_top (w := nI (zz / 15)) (pk_div (a := zz) (d := 15) (by omega) (by omega) (by omega)) ?_
          refine mw_join hT 82 (0) (0) (fun r M1 => r = nI (l_md zz) ∧ LW G o ad x z M1) (fun r M1 H locs hp hT => ?_) (fun J82 => ?_)
          · obtain ⟨rfl, hM⟩ := hp
            have hmd := l_md_le zz
            refine lv_irem X.1 X.2.1 dL_isAsked_82 (nI_ne0 (n := l_md zz) (by omega) (by omega)) ?_
            refine mm_top (w := nI ((zz / 15) % (l_md zz))) (pk_rem (a := zz / 15) (d := l_md zz) (by omega) (by omega) (by omega)) ?_
            refine lv_iadd X.1 X.2.1 dL_isAsked_83 ?_
            refine mm_top (w := nI (1 + (zz / 15) % (l_md zz))) (nI_add 1 ((zz / 15) % (l_md zz))) ?_
            obtain ⟨mi, hmi1, hmi2, emi⟩ : ∃ mi, 1 ≤ mi ∧ mi ≤ 600 ∧ 1 + zz / 15 % l_md zz = mi := ⟨_, Nat.le_add_right _ _, (by have := Nat.mod_lt (zz / 15) (show 0 < l_md zz by omega); omega), rfl⟩
            refine mm_top (w := nI mi) (congrArg nI emi) ?_
            refine lv_istore X.1 X.2.1 dL_isAsked_84 hl (by decide) rfl (fun ls hl => ?_)
            refine lv_iload X.1 X.2.1 dL_isAsked_86 (lv_at hl 1 rfl) ?_
            refine lv_if_ne X.1 X.2.1 (tgt := 112) dL_isAsked_88 (by decide) (fun c88 => ?_) (fun c88 => ?_)
            · skip
              have d88 : (q_has x (nI p) (nI q) && decide (q_over x (nI p) (ct x 22) = 0)) = true := bI_n.mp c88
              refine lv_aload X.1 X.2.1 dL_isAsked_112 (lv_at hl 9 rfl) ?_
              refine lv_iconst X.1 X.2.1 (v := 5) dL_isAsked_114 (by decide) ?_
              refine lv_aload_n X.1 X.2.1 dL_isAsked_115 rfl (lv_at hl 7 rfl) ?_
              refine lv_iconst X.1 X.2.1 (v := 4) dL_isAsked_116 (by decide) ?_
              refine ml_ald X hT hM (k := 2) (j := 4) (by decide) (by decide) dL_isAsked_117 ?_
              refine mm_top (w := nI (ct x 17)) (hR.2.2.1.2.2.2.2.1) ?_
              refine lv_imul X.1 X.2.1 dL_isAsked_118 ?_
              refine mm_top (w := nI (5 * (ct x 17))) (pk_mul 5 (ct x 17)) ?_
              refine lv_bipush X.1 X.2.1 (v := 8) dL_isAsked_119 (by decide) ?_
              refine lv_iload X.1 X.2.1 dL_isAsked_121 (lv_at hl 3 rfl) ?_
              refine lv_imul X.1 X.2.1 dL_isAsked_123 ?_
              refine mm_top (w := nI (8 * p)) (pk_mul 8 p) ?_
              refine lv_iload X.1 X.2.1 dL_isAsked_124 (lv_at hl 2 rfl) ?_
              refine lv_iadd X.1 X.2.1 dL_isAsked_126 ?_
              refine mm_top (w := nI (8 * p + q)) (nI_add (8 * p) q) ?_
              refine ml_ast X hT hM (k := 4) (j := 5 * (ct x 17)) (by decide) (show 5 * (ct x 17) < 60 by omega) dL_isAsked_127 (fun M1 H locs hM hT => ?_)
              refine lv_aload X.1 X.2.1 dL_isAsked_128 (lv_at hl 9 rfl) ?_
              refine lv_iconst X.1 X.2.1 (v := 5) dL_isAsked_130 (by decide) ?_
              refine lv_aload_n X.1 X.2.1 dL_isAsked_131 rfl (lv_at hl 7 rfl) ?_
              refine lv_iconst X.1 X.2.1 (v := 4) dL_isAsked_132 (by decide) ?_
              refine ml_ald X hT hM (k := 2) (j := 4) (by decide) (by decide) dL_isAsked_133 ?_
              refine mm_top (w := nI (ct x 17)) (by rw [zs_get, if_neg (by decide)]; exact hR.2.2.1.2.2.2.2.1) ?_
              refine lv_imul X.1 X.2.1 dL_isAsked_134 ?_
              refine mm_top (w := nI (5 * (ct x 17))) (pk_mul 5 (ct x 17)) ?_
              refine lv_iconst X.1 X.2.1 (v := 1) dL_isAsked_135 (by decide) ?_
              refine lv_iadd X.1 X.2.1 dL_isAsked_136 ?_
              refine mm_top (w := nI (5 * (ct x 17) + 1)) (nI_add (5 * (ct x 17)) 1) ?_
              refine lv_iload X.1 X.2.1 dL_isAsked_137 (lv_at hl 0 rfl) ?_
              refine ml_ast X hT hM (k := 4) (j := 5 * (ct x 17) + 1) (by decide) (show 5 * (ct x 17) + 1 < 60 by omega) dL_isAsked_139 (fun M1 H locs hM hT => ?_)
              refine lv_aload X.1 X.2.1 dL_isAsked_140 (lv_at hl 9 rfl) ?_
              refine lv_iconst X.1 X.2.1 (v := 5) dL_isAsked_142 (by decide) ?_
              refine lv_aload_n X.1 X.2.1 dL_isAsked_143 rfl (lv_at hl 7 rfl) ?_
              refine lv_iconst X.1 X.2.1 (v := 4) dL_isAsked_144 (by decide) ?_
              refine ml_ald X hT hM (k := 2) (j := 4) (by decide) (by decide) dL_isAsked_145 ?_
              refine mm_top (w := nI (ct x 17)) (by rw [zs_get, if_neg (by decide), zs_get, if_neg (by decide)]; exact hR.2.2.1.2.2.2.2.1) ?_
              refine lv_imul X.1 X.2.1 dL_isAsked_146 ?_
              refine mm_top (w := nI (5 * (ct x 17))) (pk_mul 5 (ct x 17)) ?_
              refine lv_iconst X.1 X.2.1 (v := 2) dL_isAsked_147 (by decide) ?_
              refine lv_iadd X.1 X.2.1 dL_isAsked_148 ?_
              refine mm_top (w := nI (5 * (ct x 17) + 2)) (nI_add (5 * (ct x 17)) 2) ?_
              refine lv_aload_n X.1 X.2.1 dL_isAsked_149 rfl (lv_at hl 7 rfl) ?_
              refine lv_iconst X.1 X.2.1 (v := 2) dL_isAsked_150 (by decide) ?_
              refine ml_ald X hT hM (k := 2) (j := 2) (by decide) (by decide) dL_isAsked_151 ?_
              refine mm_top (w := nI (ct x 5)) (by rw [zs_get, if_neg (by decide), zs_get, if_neg (by decide)]; exact hR.2.2.1.2.2.1) ?_
              refine ml_ast X hT hM (k := 4) (j := 5 * (ct x 17) + 2) (by decide) (show 5 * (ct x 17) + 2 < 60 by omega) dL_isAsked_152 (fun M1 H locs hM hT => ?_)
              refine lv_aload X.1 X.2.1 dL_isAsked_153 (lv_at hl 9 rfl) ?_
              refine lv_iconst X.1 X.2.1 (v := 5) dL_isAsked_155 (by decide) ?_
              refine lv_aload_n X.1 X.2.1 dL_isAsked_156 rfl (lv_at hl 7 rfl) ?_
              refine lv_iconst X.1 X.2.1 (v := 4) dL_isAsked_157 (by decide) ?_
              refine ml_ald X hT hM (k := 2) (j := 4) (by decide) (by decide) dL_isAsked_158 ?_
              refine mm_top (w := nI (ct x 17)) (by rw [zs_get, if_neg (by decide), zs_get, if_neg (by decide), zs_get, if_neg (by decide)]; exact hR.2.2.1.2.2.2.2.1) ?_
              refine lv_imul X.1 X.2.1 dL_isAsked_159 ?_
              refine mm_top (w := nI (5 * (ct x 17))) (pk_mul 5 (ct x 17)) ?_
              refine lv_iconst X.1 X.2.1 (v := 3) dL_isAsked_160 (by decide) ?_
              refine lv_iadd X.1 X.2.1 dL_isAsked_161 ?_
              refine mm_top (w := nI (5 * (ct x 17) + 3)) (nI_add (5 * (ct x 17)) 3) ?_
              refine lv_iconst X.1 X.2.1 (v := 0) dL_isAsked_162 (by decide) ?_
              refine ml_ast X hT hM (k := 4) (j := 5 * (ct x 17) + 3) (by decide) (show 5 * (ct x 17) + 3 < 60 by omega) dL_isAsked_163 (fun M1 H locs hM hT => ?_)
              refine lv_aload X.1 X.2.1 dL_isAsked_164 (lv_at hl 9 rfl) ?_
              refine lv_iconst X.1 X.2.1 (v := 5) dL_isAsked_166 (by decide) ?_
              refine lv_aload_n X.1 X.2.1 dL_isAsked_167 rfl (lv_at hl 7 rfl) ?_
              refine lv_iconst X.1 X.2.1 (v := 4) dL_isAsked_168 (by decide) ?_
              refine ml_ald X hT hM (k := 2) (j := 4) (by decide) (by decide) dL_isAsked_169 ?_
              refine mm_top (w := nI (ct x 17)) (by rw [zs_get, if_neg (by decide), zs_get, if_neg (by decide), zs_get, if_neg (by decide), zs_get, if_neg (by decide)]; exact hR.2.2.1.2.2.2.2.1) ?_
              refine lv_imul X.1 X.2.1 dL_isAsked_170 ?_
              refine mm_top (w := nI (5 * (ct x 17))) (pk_mul 5 (ct x 17)) ?_
              refine lv_iconst X.1 X.2.1 (v := 4) dL_isAsked_171 (by decide) ?_
              refine lv_iadd X.1 X.2.1 dL_isAsked_172 ?_
              refine mm_top (w := nI (5 * (ct x 17) + 4)) (nI_add (5 * (ct x 17)) 4) ?_
              refine lv_iconst X.1 X.2.1 (v := 0) dL_isAsked_173 (by decide) ?_
              refine ml_ast X hT hM (k := 4) (j := 5 * (ct x 17) + 4) (by decide) (show 5 * (ct x 17) + 4 < 60 by omega) dL_isAsked_174 (fun M1 H locs hM hT => ?_)
              refine lv_aload_n X.1 X.2.1 dL_isAsked_175 rfl (lv_at hl 7 rfl) ?_
              refine lv_iconst X.1 X.2.1 (v := 4) dL_isAsked_176 (by decide) ?_
              refine lv_dup2_11 X.1 X.2.1 dL_isAsked_177 rfl rfl ?_
              refine ml_ald X hT hM (k := 2) (j := 4) (by decide) (by decide) dL_isAsked_178 ?_
              refine mm_top (w := nI (ct x 17)) (by rw [zs_get, if_neg (by decide), zs_get, if_neg (by decide), zs_get, if_neg (by decide), zs_get, if_neg (by decide), zs_get, if_neg (by decide)]; exact hR.2.2.1.2.2.2.2.1) ?_
              refine lv_iconst X.1 X.2.1 (v := 1) dL_isAsked_179 (by decide) ?_
              refine lv_iadd X.1 X.2.1 dL_isAsked_180 ?_
              refine mm_top (w := nI (ct x 17 + 1)) (nI_add (ct x 17) 1) ?_
              refine ml_ast X hT hM (k := 2) (j := 4) (by decide) (by decide) dL_isAsked_181 (fun M1 H locs hM hT => ?_)
              refine lv_aload_n X.1 X.2.1 dL_isAsked_182 rfl (lv_at hl 4 rfl) ?_
              refine lv_iload X.1 X.2.1 dL_isAsked_183 (lv_at hl 3 rfl) ?_
              refine lv_iload X.1 X.2.1 dL_isAsked_185 (lv_at hl 2 rfl) ?_
              refine lv_iload X.1 X.2.1 dL_isAsked_187 (lv_at hl 0 rfl) ?_
              have hk3 := l_c3 (l_askc hI hp5 hq3 hmi1 hmi2)
              refine mr_gX X hT (fun hT' => mr_runSN X hex hT' cb_RL_82 kw470 kw471 (As := [.ref o, .int (nI p), .int (nI q), .int (nI mi)]) (k_asked hfl hM hX hk3.1 hk3.2.1) rfl rfl hl.1 ⟨Nat.le_of_ble_eq_true rfl, Nat.le_of_ble_eq_true rfl⟩ (Nat.le_of_ble_eq_true rfl) dL_isAsked_189 ⟨Nat.le_of_ble_eq_true rfl, Nat.le_of_ble_eq_true rfl⟩) (fun E ce9 q9 H locs hp hT h1 h2 h3 => absurd hp id) (fun v M1 H locs hp hT => ?_)
              obtain ⟨r, rfl, hr, hM⟩ := hp
              rw [if_pos (hk3.2.2.1 d88)] at hr hM
              subst hr
              refine W.eq (g2 := F0 zm 192 ls (.int (nI (ct x 17)) :: _)) rfl ?_
              have hq1 := st_ask hq (hk3.2.2.1 d88)
              have hX1 := q_inv_mono hq1.1 (show N + 1 ≤ 511 by omega)
              refine lv_aload_n X.1 X.2.1 dL_isAsked_192 rfl (lv_at hl 7 rfl) ?_
              refine lv_iconst X.1 X.2.1 (v := 4) dL_isAsked_193 (by decide) ?_
              refine ml_ald X hT hM (k := 2) (j := 4) (by decide) (by decide) dL_isAsked_194 ?_
              refine mm_top (w := nI (ct x 17 + 1)) (by rw [zs_get, if_pos rfl, if_pos rfl]) ?_
              refine lv_iconst X.1 X.2.1 (v := 1) dL_isAsked_195 (by decide) ?_
              refine lv_isub X.1 X.2.1 dL_isAsked_196 ?_
              refine mm_top (w := nI (ct x 17)) (nI_pred (ct x 17)) ?_
              refine lv_icmp_ne X.1 X.2.1 (tgt := 220) dL_isAsked_197 (by decide) (fun c197 => absurd c197 (fun h => h rfl)) (fun c197 => ?_)
              refine lv_aload_n X.1 X.2.1 dL_isAsked_200 rfl (lv_at hl 4 rfl) ?_
              refine lv_aload_n X.1 X.2.1 dL_isAsked_201 rfl (lv_at hl 7 rfl) ?_
              refine lv_iconst X.1 X.2.1 (v := 0) dL_isAsked_202 (by decide) ?_
              refine lv_iload X.1 X.2.1 dL_isAsked_203 (lv_at hl 3 rfl) ?_
              refine lv_iload X.1 X.2.1 dL_isAsked_205 (lv_at hl 2 rfl) ?_
              refine lv_aload_n X.1 X.2.1 dL_isAsked_207 rfl (lv_at hl 7 rfl) ?_
              refine lv_iconst X.1 X.2.1 (v := 2) dL_isAsked_208 (by decide) ?_
              refine ml_ald X hT hM (k := 2) (j := 2) (by decide) (by decide) dL_isAsked_209 ?_
              refine mm_top (w := nI (ct x 5)) (by rw [zs_get, if_pos rfl, if_neg (by omega), zs_get, if_neg (by decide), zs_get, if_neg (by decide), zs_get, if_neg (by decide), zs_get, if_neg (by decide), zs_get, if_neg (by decide)]; exact hR.2.2.1.2.2.1) ?_
              have hx1 : q_ext (q_write (ss (cs (cs (cs (cs (cs (cs x 11 (ct x 17) (nI p)) 12 (ct x 17) (nI q)) 13 (ct x 17) (nI mi)) 14 (ct x 17) (q_now x)) 15 (ct x 17) 0) 16 (ct x 17) (-1)) 17 (ct x 17 + 1)) 0 (nI p) (nI q)) (f_ask_s x (nI p) (nI q) (nI mi)) := q_ext.rf _
              obtain ⟨g1, g2, g3⟩ := q_ext_at hx1
              have eS : q_seal x 0 (nI p) (nI q) = nI ((31 * sq + 0 + 10 * p + 200 * q + 2000 * ct x 5) % 1000003) := q_seal_nI (k := 0) esq hsq (by decide) (by omega) (by omega) (by omega)
              have g3 : cg (f_ask_s x (nI p) (nI q) (nI mi)) 31 (ct x 32) = nI ((31 * sq + 0 + 10 * p + 200 * q + 2000 * ct x 5) % 1000003) := g3.trans eS
              have hLR := (LR.ask0 (p := p) (m := q) (t := mi) hR).write 0 (nI p) (nI q)
              rw [show q_seal (ss (cs (cs (cs (cs (cs (cs x 11 (ct x 17) (nI p)) 12 (ct x 17) (nI q)) 13 (ct x 17) (nI mi)) 14 (ct x 17) (q_now x)) 15 (ct x 17) 0) 16 (ct x 17) (-1)) 17 (ct x 17 + 1)) 0 (nI p) (nI q) = nI ((31 * sq + 0 + 10 * p + 200 * q + 2000 * ct x 5) % 1000003) from eS] at hLR
              refine mr_g X hT (fun hT' => mr_runS X hT' cb_RL_38 kw418 kw419 (As := [.ref o, .ref (ad 2), .int 0, .int (nI p), .int (nI q), .int (nI (ct x 5))]) (k_isStep hfl hM hX1 (s := sq) (n := ct x 32) (kd := 0) (p := p) (m := q) (tt := ct x 5) (by rw [zs_get, if_pos rfl, if_neg (by omega), zs_get, if_neg (by decide), zs_get, if_neg (by decide), zs_get, if_neg (by decide), zs_get, if_neg (by decide), zs_get, if_neg (by decide)]; exact (hR.2.2.1.2.2.2.2.2.2.2.2).trans esq) hsq (by rw [zs_get, if_pos rfl, if_neg (by omega), zs_get, if_neg (by decide), zs_get, if_neg (by decide), zs_get, if_neg (by decide), zs_get, if_neg (by decide), zs_get, if_neg (by decide)]; exact hR.2.2.1.2.2.2.2.2.2.2.1) (by decide) (by omega) (by omega) (by omega) g1 g2 g3) rfl rfl hl.1 ⟨Nat.le_of_ble_eq_true rfl, Nat.le_of_ble_eq_true rfl⟩ (Nat.le_of_ble_eq_true rfl) dL_isAsked_210 ⟨Nat.le_of_ble_eq_true rfl, Nat.le_of_ble_eq_true rfl⟩) (fun v M1 H locs hp hT => ?_)
              obtain ⟨r, rfl, rfl, hM⟩ := hp
              refine W.eq (g2 := F0 zm 213 ls (.int 1 :: _)) rfl ?_
              refine lv_if_eq X.1 X.2.1 (tgt := 220) dL_isAsked_213 (by decide) (fun c213 => absurd c213 (by decide)) (fun _ => ?_)
              refine lv_iconst X.1 X.2.1 (v := 1) dL_isAsked_216 (by decide) ?_
              refine lv_goto X.1 X.2.1 (tgt := 221) dL_isAsked_217 (by decide) ?_
              exact mr_zret X hT hret (by first | rfl | decide | exact bI_nar _) (⟨_, rfl, rfl, _, _, ⟨hLR, (LI.ask0 (p := p) (m := q) (t := mi) hI e58).write (k := 0) v5 (by decide) (by omega) (by omega), hq1, hT5, hH⟩, hM⟩) (Nat.le_of_ble_eq_true rfl) (Nat.le_of_ble_eq_true rfl) dL_isAsked_221
            · skip
              have d88 : (q_has x (nI p) (nI q) && decide (q_over x (nI p) (ct x 22) = 0)) = false := bI_0.mp c88
              refine lv_aload_n X.1 X.2.1 dL_isAsked_91 rfl (lv_at hl 4 rfl) ?_
              refine lv_iload X.1 X.2.1 dL_isAsked_92 (lv_at hl 3 rfl) ?_
              refine lv_iload X.1 X.2.1 dL_isAsked_94 (lv_at hl 2 rfl) ?_
              refine lv_iload X.1 X.2.1 dL_isAsked_96 (lv_at hl 0 rfl) ?_
              have hk3 := l_c3 (l_askc hI hp5 hq3 hmi1 hmi2)
              refine mr_gX X hT (fun hT' => mr_runSN X hex hT' cb_RL_82 kw470 kw471 (As := [.ref o, .int (nI p), .int (nI q), .int (nI mi)]) (k_asked hfl hM hX hk3.1 hk3.2.1) rfl rfl hl.1 ⟨Nat.le_of_ble_eq_true rfl, Nat.le_of_ble_eq_true rfl⟩ (Nat.le_of_ble_eq_true rfl) dL_isAsked_98 ⟨Nat.le_of_ble_eq_true rfl, Nat.le_of_ble_eq_true rfl⟩) (fun E ce9 q9 H locs hp hT h1 h2 h3 => absurd hp id) (fun v M1 H locs hp hT => ?_)
              obtain ⟨r, rfl, hr, hM⟩ := hp
              rw [if_neg (hk3.2.2.2 d88)] at hr hM
              subst hr
              refine W.eq (g2 := F0 zm 101 ls (.int ((-2)) :: _)) rfl ?_
              refine lv_bipush X.1 X.2.1 (v := -2) dL_isAsked_101 (by decide) ?_
              refine lv_icmp_ne X.1 X.2.1 (tgt := 110) dL_isAsked_103 (by decide) (fun c103 => absurd c103 (by decide)) (fun _ => ?_)
              refine lv_iconst X.1 X.2.1 (v := 1) dL_isAsked_106 (by decide) ?_
              refine lv_goto X.1 X.2.1 (tgt := 111) dL_isAsked_107 (by decide) ?_
              exact mr_zret X hT hret (by first | rfl | decide | exact bI_nar _) (⟨_, rfl, rfl, _, _, ⟨hR, hI, st_same hq, hT5, hH⟩, hM⟩) (Nat.le_of_ble_eq_true rfl) (Nat.le_of_ble_eq_true rfl) dL_isAsked_111
          · skip
            refine lv_iload X.1 X.2.1 dL_isAsked_67 (lv_at hl 11 rfl) ?_
            refine lv_iconst X.1 X.2.1 (v := 2) dL_isAsked_69 (by decide) ?_
            refine lv_irem X.1 X.2.1 dL_isAsked_70 (by decide) ?_
            refine mm_top (w := nI (zz % 2)) (pk_rem (a := zz) (d := 2) (by omega) (by omega) (by omega)) ?_
            refine lv_if_ne X.1 X.2.1 (tgt := 80) dL_isAsked_71 (by decide) (fun c71 => ?_) (fun c71 => ?_)
            · skip
              have e71 : ¬ zz % 2 = 0 := fun h => c71 (by rw [h]; rfl)
              refine lv_bipush X.1 X.2.1 (v := 30) dL_isAsked_80 (by decide) ?_
              refine W.widen (k := 0) (n := 0) (show ((0) : Nat) ≤ 0 by omega) (show ((0) : Nat) ≤ 0 by omega) ?_
              exact J82 _ _ _ _ ⟨by first | exact congrArg nI (show 600 = l_md zz by rw [l_md, if_pos e71]) | exact congrArg nI (show 30 = l_md zz by rw [l_md, if_neg e71]), hM⟩ hT
            · skip
              have e71 : zz % 2 = 0 := (nI_eq (a := zz % 2) (b := 0) (by omega) (by omega)).mp c71
              refine lv_sipush X.1 X.2.1 (v := 600) dL_isAsked_74 (by decide) ?_
              refine lv_goto X.1 X.2.1 (tgt := 82) dL_isAsked_77 (by decide) ?_
              refine W.widen (k := 0) (n := 0) (show ((0) : Nat) ≤ 0 by omega) (show ((0) : Nat) ≤ 0 by omega) ?_
              exact J82 _ _ _ _ ⟨by first | exact congrArg nI (show 600 = l_md zz by rw [l_md, if_pos e71]) | exact congrArg nI (show 30 = l_md zz by rw [l_md, if_neg e71]), hM⟩ hT
  · skip
    refine lv_aload_n X.1 X.2.1 dL_isAsked_18 rfl (lv_at hl 3 rfl) ?_
    refine lv_aload_n X.1 X.2.1 dL_isAsked_19 rfl (lv_at hl 4 rfl) ?_
    refine lv_iload X.1 X.2.1 dL_isAsked_20 (lv_at hl 1 rfl) ?_
    refine lv_iload X.1 X.2.1 dL_isAsked_22 (lv_at hl 0 rfl) ?_
    refine mr_g X hT (fun hT' => mr_runS X hT' cb_RL_75 kw464 kw465 (As := [.ref (ad 0), .ref (ad 1), .int (nI p), .int (nI q)]) (k_may hfl hM hR hI hV (p := p) (m := q) hp5 hq3) rfl rfl hl.1 ⟨Nat.le_of_ble_eq_true rfl, Nat.le_of_ble_eq_true rfl⟩ (Nat.le_of_ble_eq_true rfl) dL_isAsked_24 ⟨Nat.le_of_ble_eq_true rfl, Nat.le_of_ble_eq_true rfl⟩) (fun v M1 H locs hp hT => ?_)
    obtain ⟨r, rfl, rfl, hM⟩ := hp
    refine W.eq (g2 := F0 zm 27 ls (.int (bI (q_has x (nI p) (nI q))) :: _)) rfl ?_
    refine lv_if_eq X.1 X.2.1 (tgt := 45) dL_isAsked_27 (by decide) (fun c27 => ?_) (fun c27 => ?_)
    · skip
      have d27 : (q_has x (nI p) (nI q)) = false := bI_0.mp c27
      refine lv_iconst X.1 X.2.1 (v := 0) dL_isAsked_45 (by decide) ?_
      refine W.widen (k := 0) (n := 0) (show ((0 + 0) : Nat) ≤ 0 by omega) (show ((0 + 0) : Nat) ≤ 0 by omega) ?_
      exact J46 _ _ _ _ ⟨by first | (rw [d27]; rfl) | (rw [d27, decide_eq_false c38]; rfl) | (rw [d27, decide_eq_true c38]; rfl), hM⟩ hT
    · skip
      have d27 : (q_has x (nI p) (nI q)) = true := bI_n.mp c27
      refine lv_aload X.1 X.2.1 dL_isAsked_30 (lv_at hl 8 rfl) ?_
      refine lv_aload_n X.1 X.2.1 dL_isAsked_32 rfl (lv_at hl 5 rfl) ?_
      refine lv_iload X.1 X.2.1 dL_isAsked_33 (lv_at hl 1 rfl) ?_
      refine mr_g X hT (fun hT' => mr_runS X hT' cb_RL_78 kw467 kw468 (As := [.ref (ad 5), .ref (ad 2), .int (nI p)]) (k_overdue hfl hM hR hI hV (p := p) (by omega)) rfl rfl hl.1 ⟨Nat.le_of_ble_eq_true rfl, Nat.le_of_ble_eq_true rfl⟩ (Nat.le_of_ble_eq_true rfl) dL_isAsked_35 ⟨Nat.le_of_ble_eq_true rfl, Nat.le_of_ble_eq_true rfl⟩) (fun v M1 H locs hp hT => ?_)
      obtain ⟨r, rfl, rfl, hM⟩ := hp
      refine W.eq (g2 := F0 zm 38 ls (.int (q_over x (nI p) (ct x 22)) :: _)) rfl ?_
      refine lv_if_ne X.1 X.2.1 (tgt := 45) dL_isAsked_38 (by decide) (fun c38 => ?_) (fun c38 => ?_)
      · skip
        refine lv_iconst X.1 X.2.1 (v := 0) dL_isAsked_45 (by decide) ?_
        refine W.widen (k := 0) (n := 0) (show ((0 + 0 + 0) : Nat) ≤ 0 by omega) (show ((0 + 0 + 0) : Nat) ≤ 0 by omega) ?_
        exact J46 _ _ _ _ ⟨by first | (rw [d27]; rfl) | (rw [d27, decide_eq_false c38]; rfl) | (rw [d27, decide_eq_true c38]; rfl), hM⟩ hT
      · skip
        refine lv_iconst X.1 X.2.1 (v := 1) dL_isAsked_41 (by decide) ?_
        refine lv_goto X.1 X.2.1 (tgt := 46) dL_isAsked_42 (by decide) ?_
        refine W.widen (k := 0) (n := 0) (show ((0 + 0 + 0) : Nat) ≤ 0 by omega) (show ((0 + 0 + 0) : Nat) ≤ 0 by omega) ?_
        exact J46 _ _ _ _ ⟨by first | (rw [d27]; rfl) | (rw [d27, decide_eq_false c38]; rfl) | (rw [d27, decide_eq_true c38]; rfl), hM⟩ hT
