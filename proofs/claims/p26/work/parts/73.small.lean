abbrev rm_L_may : Room := { frames := 0, cells := 0, slots := 0, locals := 0 }
set_option maxHeartbeats 4000000 in
set_option maxRecDepth 100000 in
theorem k_may {l : Launch} (hfl : l.stackTraces = false) {G : mw_G} {o : Nat} {ad : Nat → Nat} {x y : s_T} {z : Nat → Nat → Int32} {M : mw_M} {p m : Nat} (hM : LW G o ad x z M) (hR : LR y z) (hI : LI y) (hV : q_inv 512 y) (hp : p < 5) (hm : m < 3) : mw_Met l G yL_may (.code yL_may cL_may 4 (some .boolean)) rm_L_may [.ref (ad 0), .ref (ad 1), .int (nI p), .int (nI m)] M (mw_pi (fun r M1 => r = bI (q_has y (nI p) (nI m)) ∧ LW G o ad x z M1)) := by
  refine mw_of hfl (by decide) (Nat.le_of_ble_eq_true rfl) ?_
  intro zp ze zs_ zm zb zh zc ls X hin hret hT hl
  have hl : lv_has ls 4 [(0, .ref (ad 0)), (1, .ref (ad 1)), (2, .int (nI p)), (3, .int (nI m))] := hl
  obtain ⟨t, ht, et⟩ := hI.2.2.2.2.2.2.1 m hm
  have hlb := hV.2.2.2.2.2.2.2.2 (4 * p + t)
  refine lv_aload_n X.1 X.2.1 dL_may_0 rfl (lv_at hl 0 rfl) ?_
  refine lv_iconst X.1 X.2.1 (v := 2) dL_may_1 (by decide) ?_
  refine lv_iload_n X.1 X.2.1 dL_may_2 rfl (lv_at hl 2 rfl) ?_
  refine lv_imul X.1 X.2.1 dL_may_3 ?_
  refine mm_top (w := nI (2 * p)) (pk_mul 2 p) ?_
  refine lv_iconst X.1 X.2.1 (v := 1) dL_may_4 (by decide) ?_
  refine lv_iadd X.1 X.2.1 dL_may_5 ?_
  refine mm_top (w := nI (2 * p + 1)) (nI_add (2 * p) 1) ?_
  refine ml_ald X hT hM (k := 0) (j := 2 * p + 1) (by decide) (show 2 * p + 1 < 10 by omega) dL_may_6 ?_
  refine lv_aload_n X.1 X.2.1 dL_may_7 rfl (lv_at hl 1 rfl) ?_
  refine lv_iload_n X.1 X.2.1 dL_may_8 rfl (lv_at hl 3 rfl) ?_
  refine ml_ald X hT hM (k := 1) (j := m) (by decide) (show m < 3 by omega) dL_may_9 ?_
  refine mm_top (w := nI t) ((hR.2.1 m hm).trans et) ?_
  refine lv_ishr X.1 X.2.1 dL_may_10 ?_
  refine lv_iconst X.1 X.2.1 (v := 1) dL_may_11 (by decide) ?_
  refine lv_iand X.1 X.2.1 dL_may_12 ?_
  refine mm_top (w := cg y 1 (4 * p + t)) ((hR.1 p hp).2 t ht) ?_
  refine lv_iconst X.1 X.2.1 (v := 1) dL_may_13 (by decide) ?_
  refine lv_icmp_ne X.1 X.2.1 (tgt := 21) dL_may_14 (by decide) (fun c14 => ?_) (fun c14 => ?_)
  · skip
    refine lv_iconst X.1 X.2.1 (v := 0) dL_may_21 (by decide) ?_
    exact mr_zret X hT hret (by first | rfl | decide | exact bI_nar _) (⟨_, rfl, by rw [l_has (by omega) (by omega) (by omega) et]; rcases hlb with h | h <;> simp [h, bI] at c14 ⊢, hM⟩) (Nat.le_of_ble_eq_true rfl) (Nat.le_of_ble_eq_true rfl) dL_may_22
  · skip
    refine lv_iconst X.1 X.2.1 (v := 1) dL_may_17 (by decide) ?_
    refine lv_goto X.1 X.2.1 (tgt := 22) dL_may_18 (by decide) ?_
    exact mr_zret X hT hret (by first | rfl | decide | exact bI_nar _) (⟨_, rfl, by rw [l_has (by omega) (by omega) (by omega) et]; rcases hlb with h | h <;> simp [h, bI] at c14 ⊢, hM⟩) (Nat.le_of_ble_eq_true rfl) (Nat.le_of_ble_eq_true rfl) dL_may_22

abbrev rm_L_holdsAt : Room := { frames := 0, cells := 0, slots := 0, locals := 0 }
set_option maxHeartbeats 4000000 in
set_option maxRecDepth 100000 in
theorem k_holdsAt {l : Launch} (hfl : l.stackTraces = false) {G : mw_G} {o : Nat} {ad : Nat → Nat} {x y : s_T} {z : Nat → Nat → Int32} {M : mw_M} {u v : Nat} {t : Int32} (hM : LW G o ad x z M) (hR : LR y z) (i10 : ct y 10 ≤ 20) (hV : q_inv 512 y) (hu : u < 12) (hv : v < 8) : mw_Met l G yL_holdsAt (.code yL_holdsAt cL_holdsAt 6 (some .boolean)) rm_L_holdsAt [.ref (ad 3), .ref (ad 2), .int (nI (8 * u + v)), .int t] M (mw_pi (fun r M1 => r = bI (q_hold y (nI u) (nI v) t (ct y 10)) ∧ LW G o ad x z M1)) := by
  refine mw_of hfl (by decide) (Nat.le_of_ble_eq_true rfl) ?_
  intro zp ze zs_ zm zb zh zc ls X hin hret hT hl
  have hl : lv_has ls 6 [(0, .ref (ad 3)), (1, .ref (ad 2)), (2, .int (nI (8 * u + v))), (3, .int t)] := hl
  obtain ⟨v2, v4, v5⟩ := hV.le
  refine lv_iconst X.1 X.2.1 (v := 0) dL_holdsAt_0 (by decide) ?_
  refine lv_istore X.1 X.2.1 dL_holdsAt_1 hl (by decide) rfl (fun ls hl => ?_)
  refine lv_aload_n X.1 X.2.1 dL_holdsAt_3 rfl (lv_at hl 2 rfl) ?_
  refine lv_iconst X.1 X.2.1 (v := 3) dL_holdsAt_4 (by decide) ?_
  refine ml_ald X hT hM (k := 2) (j := 3) (by decide) (by decide) dL_holdsAt_5 ?_
  refine mm_top (w := nI (ct y 10)) (hR.2.2.1.2.2.2.1) ?_
  refine lv_iconst X.1 X.2.1 (v := 1) dL_holdsAt_6 (by decide) ?_
  refine lv_isub X.1 X.2.1 dL_holdsAt_7 ?_
  refine lv_istore X.1 X.2.1 dL_holdsAt_8 hl (by decide) rfl (fun ls hl => ?_)
  refine W.widen (k := (fun _ => 0) 0) (n := (fun _ => 0) 0) (show ((0) : Nat) ≤ 0 by omega) (show ((0) : Nat) ≤ 0 by omega) ?_
  refine mw_loopC (nL := 6) (n := ct y 10) (fun k M1 => LW G o ad x z M1) (fun k => [(5, .int (nI (ct y 10 - k) - 1)), (4, .int (bI (h_from y (nI u) (nI v) t (ct y 10) k))), (0, .ref (ad 3)), (1, .ref (ad 2)), (2, .int (nI (8 * u + v))), (3, .int t)]) (fun _ => 0) (fun _ => 0) (fun k hk ih10 M1 H locs ls hM hT hl => ?_) hM hT (lv_sub hl [0, 1, 2, 3, 4, 5] rfl)
  refine lv_iload X.1 X.2.1 dL_holdsAt_10 (lv_at hl 0 rfl) ?_
  refine lv_if_lt X.1 X.2.1 (tgt := 67) dL_holdsAt_12 (by decide) (fun c12 => ?_) (fun c12 => ?_)
  · skip
    have hkn := (l_dn hk (by omega)).mp c12
    subst hkn
    refine lv_iload X.1 X.2.1 dL_holdsAt_67 (lv_at hl 1 rfl) ?_
    exact mr_zret X hT hret (by first | rfl | decide | exact bI_nar _) (⟨_, rfl, by rw [h_from_all], hM⟩) (Nat.le_of_ble_eq_true rfl) (Nat.le_of_ble_eq_true rfl) dL_holdsAt_69
  · skip
    have hkl : k < ct y 10 := Nat.lt_of_le_of_ne hk (fun q => c12 ((l_dn hk (by omega)).mpr q))
    have hj : ct y 10 - 1 - k < ct y 10 := by omega
    have eH := l_hold1 (t := t) hR hV hu hv hj
    have eJ := l_dn1 hkl
    obtain ⟨j, ej⟩ : ∃ j, j = ct y 10 - 1 - k := ⟨_, rfl⟩
    rw [← ej] at hj eH eJ
    refine mw_join hT 59 (0) (0) (fun r M1 => r = bI (h_from y (nI u) (nI v) t (ct y 10) (k + 1)) ∧ LW G o ad x z M1) (fun r M1 H locs hp hT => ?_) (fun J59 => ?_)
    · obtain ⟨rfl, hM⟩ := hp
      refine lv_istore X.1 X.2.1 dL_holdsAt_59 hl (by decide) rfl (fun ls hl => ?_)
      refine lv_iinc X.1 X.2.1 (k := 1) (v := nI (ct y 10 - (k + 1)) - 1) dL_holdsAt_61 hl rfl (l_dn3 hkl) (by decide) rfl (fun ls hl => ?_)
      refine lv_goto X.1 X.2.1 (tgt := 10) dL_holdsAt_64 (by decide) ?_
      refine W.widen (k := 0) (n := 0) (show ((0) : Nat) ≤ 0 by omega) (show ((0) : Nat) ≤ 0 by omega) ?_
      exact ih10 (by omega) _ _ _ _ (hM) hT (lv_sub hl [0, 1, 2, 3, 4, 5] rfl)
    · skip
      refine lv_iload X.1 X.2.1 dL_holdsAt_15 (lv_at hl 1 rfl) ?_
      refine lv_if_ne X.1 X.2.1 (tgt := 54) dL_holdsAt_17 (by decide) (fun c17 => ?_) (fun c17 => ?_)
      · skip
        have d17 : (h_from y (nI u) (nI v) t (ct y 10) k) = true := bI_n.mp c17
        refine lv_iconst X.1 X.2.1 (v := 1) dL_holdsAt_54 (by decide) ?_
        refine lv_goto X.1 X.2.1 (tgt := 59) dL_holdsAt_55 (by decide) ?_
        refine W.widen (k := 0) (n := 0) (show ((0) : Nat) ≤ 0 by omega) (show ((0) : Nat) ≤ 0 by omega) ?_
        exact J59 _ _ _ _ ⟨by rw [h_from, ← ej]; first | (rw [d17]; rfl) | (rw [d17, eH]; first | (simp [bI, c27]; done) | (simp [bI, c27, Int32.not_le.mpr c39]; done) | (simp [bI, c27, Int32.not_lt.mp c39, Int32.not_lt.mpr c51]; done) | (simp [bI, c27, Int32.not_lt.mp c39, Int32.not_le.mp c51]; done)), hM⟩ hT
      · skip
        have d17 : (h_from y (nI u) (nI v) t (ct y 10) k) = false := bI_0.mp c17
        refine lv_aload_n X.1 X.2.1 dL_holdsAt_20 rfl (lv_at hl 2 rfl) ?_
        refine lv_iconst X.1 X.2.1 (v := 3) dL_holdsAt_21 (by decide) ?_
        refine lv_iload X.1 X.2.1 dL_holdsAt_22 (lv_at hl 0 rfl) ?_
        refine mm_top (w := nI j) (eJ) ?_
        refine lv_imul X.1 X.2.1 dL_holdsAt_24 ?_
        refine mm_top (w := nI (3 * j)) (pk_mul 3 j) ?_
        refine ml_ald X hT hM (k := 3) (j := 3 * j) (by decide) (show 3 * j < 63 by omega) dL_holdsAt_25 ?_
        refine lv_iload_n X.1 X.2.1 dL_holdsAt_26 rfl (lv_at hl 4 rfl) ?_
        refine lv_icmp_ne X.1 X.2.1 (tgt := 58) dL_holdsAt_27 (by decide) (fun c27 => ?_) (fun c27 => ?_)
        · skip
          refine lv_iconst X.1 X.2.1 (v := 0) dL_holdsAt_58 (by decide) ?_
          refine W.widen (k := 0) (n := 0) (show ((0) : Nat) ≤ 0 by omega) (show ((0) : Nat) ≤ 0 by omega) ?_
          exact J59 _ _ _ _ ⟨by rw [h_from, ← ej]; first | (rw [d17]; rfl) | (rw [d17, eH]; first | (simp [bI, c27]; done) | (simp [bI, c27, Int32.not_le.mpr c39]; done) | (simp [bI, c27, Int32.not_lt.mp c39, Int32.not_lt.mpr c51]; done) | (simp [bI, c27, Int32.not_lt.mp c39, Int32.not_le.mp c51]; done)), hM⟩ hT
        · skip
          refine lv_iload_n X.1 X.2.1 dL_holdsAt_30 rfl (lv_at hl 5 rfl) ?_
          refine lv_aload_n X.1 X.2.1 dL_holdsAt_31 rfl (lv_at hl 2 rfl) ?_
          refine lv_iconst X.1 X.2.1 (v := 3) dL_holdsAt_32 (by decide) ?_
          refine lv_iload X.1 X.2.1 dL_holdsAt_33 (lv_at hl 0 rfl) ?_
          refine mm_top (w := nI j) (eJ) ?_
          refine lv_imul X.1 X.2.1 dL_holdsAt_35 ?_
          refine mm_top (w := nI (3 * j)) (pk_mul 3 j) ?_
          refine lv_iconst X.1 X.2.1 (v := 1) dL_holdsAt_36 (by decide) ?_
          refine lv_iadd X.1 X.2.1 dL_holdsAt_37 ?_
          refine mm_top (w := nI (3 * j + 1)) (nI_add (3 * j) 1) ?_
          refine ml_ald X hT hM (k := 3) (j := 3 * j + 1) (by decide) (show 3 * j + 1 < 63 by omega) dL_holdsAt_38 ?_
          refine lv_icmp_lt X.1 X.2.1 (tgt := 58) dL_holdsAt_39 (by decide) (fun c39 => ?_) (fun c39 => ?_)
          · skip
            refine lv_iconst X.1 X.2.1 (v := 0) dL_holdsAt_58 (by decide) ?_
            refine W.widen (k := 0) (n := 0) (show ((0) : Nat) ≤ 0 by omega) (show ((0) : Nat) ≤ 0 by omega) ?_
            exact J59 _ _ _ _ ⟨by rw [h_from, ← ej]; first | (rw [d17]; rfl) | (rw [d17, eH]; first | (simp [bI, c27]; done) | (simp [bI, c27, Int32.not_le.mpr c39]; done) | (simp [bI, c27, Int32.not_lt.mp c39, Int32.not_lt.mpr c51]; done) | (simp [bI, c27, Int32.not_lt.mp c39, Int32.not_le.mp c51]; done)), hM⟩ hT
          · skip
            refine lv_iload_n X.1 X.2.1 dL_holdsAt_42 rfl (lv_at hl 5 rfl) ?_
            refine lv_aload_n X.1 X.2.1 dL_holdsAt_43 rfl (lv_at hl 2 rfl) ?_
            refine lv_iconst X.1 X.2.1 (v := 3) dL_holdsAt_44 (by decide) ?_
            refine lv_iload X.1 X.2.1 dL_holdsAt_45 (lv_at hl 0 rfl) ?_
            refine mm_top (w := nI j) (eJ) ?_
            refine lv_imul X.1 X.2.1 dL_holdsAt_47 ?_
            refine mm_top (w := nI (3 * j)) (pk_mul 3 j) ?_
            refine lv_iconst X.1 X.2.1 (v := 2) dL_holdsAt_48 (by decide) ?_
            refine lv_iadd X.1 X.2.1 dL_holdsAt_49 ?_
            refine mm_top (w := nI (3 * j + 2)) (nI_add (3 * j) 2) ?_
            refine ml_ald X hT hM (k := 3) (j := 3 * j + 2) (by decide) (show 3 * j + 2 < 63 by omega) dL_holdsAt_50 ?_
            refine lv_icmp_ge X.1 X.2.1 (tgt := 58) dL_holdsAt_51 (by decide) (fun c51 => ?_) (fun c51 => ?_)
            · skip
              refine lv_iconst X.1 X.2.1 (v := 0) dL_holdsAt_58 (by decide) ?_
              refine W.widen (k := 0) (n := 0) (show ((0) : Nat) ≤ 0 by omega) (show ((0) : Nat) ≤ 0 by omega) ?_
              exact J59 _ _ _ _ ⟨by rw [h_from, ← ej]; first | (rw [d17]; rfl) | (rw [d17, eH]; first | (simp [bI, c27]; done) | (simp [bI, c27, Int32.not_le.mpr c39]; done) | (simp [bI, c27, Int32.not_lt.mp c39, Int32.not_lt.mpr c51]; done) | (simp [bI, c27, Int32.not_lt.mp c39, Int32.not_le.mp c51]; done)), hM⟩ hT
            · skip
              refine lv_iconst X.1 X.2.1 (v := 1) dL_holdsAt_54 (by decide) ?_
              refine lv_goto X.1 X.2.1 (tgt := 59) dL_holdsAt_55 (by decide) ?_
              refine W.widen (k := 0) (n := 0) (show ((0) : Nat) ≤ 0 by omega) (show ((0) : Nat) ≤ 0 by omega) ?_
              exact J59 _ _ _ _ ⟨by rw [h_from, ← ej]; first | (rw [d17]; rfl) | (rw [d17, eH]; first | (simp [bI, c27]; done) | (simp [bI, c27, Int32.not_le.mpr c39]; done) | (simp [bI, c27, Int32.not_lt.mp c39, Int32.not_lt.mpr c51]; done) | (simp [bI, c27, Int32.not_lt.mp c39, Int32.not_le.mp c51]; done)), hM⟩ hT

abbrev rm_L_isStep : Room := { frames := 2, cells := 0, slots := 0, locals := 42 }
set_option maxHeartbeats 4000000 in
set_option maxRecDepth 100000 in
theorem k_isStep {l : Launch} (hfl : l.stackTraces = false) {G : mw_G} {o : Nat} {ad : Nat → Nat} {x : s_T} {z : Nat → Nat → Int32} {M : mw_M} {s n kd p m tt : Nat} (hM : LW G o ad x z M) (hX : q_inv 511 x) (hs : z 2 8 = nI s) (h1 : s < 1000003) (hn : z 2 7 = nI n) (h2 : kd ≤ 8) (h3 : p < 12) (h4 : m < 8) (h5 : tt ≤ 100000) (h6 : n < ct x 32) (h7 : cg x 30 n = nI kd) (h8 : cg x 31 n = nI ((31 * s + kd + 10 * p + 200 * m + 2000 * tt) % 1000003)) : mw_Met l G yL_isStep (.code yL_isStep cL_isStep 8 (some .boolean)) rm_L_isStep [.ref o, .ref (ad 2), .int (nI kd), .int (nI p), .int (nI m), .int (nI tt)] M (mw_pi (fun r M1 => r = 1 ∧ LW G o ad x (zs (zs z 2 8 (nI ((31 * s + kd + 10 * p + 200 * m + 2000 * tt) % 1000003))) 2 7 (nI (n + 1))) M1)) := by
  refine mw_of hfl (by decide) (Nat.le_of_ble_eq_true rfl) ?_
  intro zp ze zs_ zm zb zh zc ls X hin hret hT hl
  have hl : lv_has ls 8 [(0, .ref o), (1, .ref (ad 2)), (2, .int (nI kd)), (3, .int (nI p)), (4, .int (nI m)), (5, .int (nI tt))] := hl
  have hx32 : ct x 32 ≤ 2 * 511 := by have := hX.1.2.2.2.2.2.2.2; omega
  refine lv_ldc2 X.1 X.2.1 (v := 31) X.2.2.2.1 (mw_use X.2.2.2.2.1.1 kw420 rfl) dL_isStep_0 ?_
  refine lv_aload_n X.1 X.2.1 dL_isStep_3 rfl (lv_at hl 1 rfl) ?_
  refine lv_bipush X.1 X.2.1 (v := 8) dL_isStep_4 (by decide) ?_
  refine ml_ald X hT hM (k := 2) (j := 8) (by decide) (by decide) dL_isStep_6 ?_
  refine mm_top (w := nI s) (hs) ?_
  refine lv_i2l X.1 X.2.1 (v := lN s) dL_isStep_7 (nI_l (n := s) (by omega)) ?_
  refine lv_lmul X.1 X.2.1 dL_isStep_8 ?_
  refine mm_topL (w := lN (31 * s)) (lN_mul 31 s) ?_
  refine lv_iload_n X.1 X.2.1 dL_isStep_9 rfl (lv_at hl 2 rfl) ?_
  refine lv_i2l X.1 X.2.1 (v := lN kd) dL_isStep_10 (nI_l (n := kd) (by omega)) ?_
  refine lv_ladd X.1 X.2.1 dL_isStep_11 ?_
  refine mm_topL (w := lN (31 * s + kd)) (lN_add (31 * s) kd) ?_
  refine lv_ldc2 X.1 X.2.1 (v := 10) X.2.2.2.1 (mw_use X.2.2.2.2.1.1 kw421 rfl) dL_isStep_12 ?_
  refine lv_iload_n X.1 X.2.1 dL_isStep_15 rfl (lv_at hl 3 rfl) ?_
  refine lv_i2l X.1 X.2.1 (v := lN p) dL_isStep_16 (nI_l (n := p) (by omega)) ?_
  refine lv_lmul X.1 X.2.1 dL_isStep_17 ?_
  refine mm_topL (w := lN (10 * p)) (lN_mul 10 p) ?_
  refine lv_ladd X.1 X.2.1 dL_isStep_18 ?_
  refine mm_topL (w := lN (31 * s + kd + 10 * p)) (lN_add (31 * s + kd) (10 * p)) ?_
  refine lv_ldc2 X.1 X.2.1 (v := 200) X.2.2.2.1 (mw_use X.2.2.2.2.1.1 kw422 rfl) dL_isStep_19 ?_
  refine lv_iload X.1 X.2.1 dL_isStep_22 (lv_at hl 4 rfl) ?_
  refine lv_i2l X.1 X.2.1 (v := lN m) dL_isStep_24 (nI_l (n := m) (by omega)) ?_
  refine lv_lmul X.1 X.2.1 dL_isStep_25 ?_
  refine mm_topL (w := lN (200 * m)) (lN_mul 200 m) ?_
  refine lv_ladd X.1 X.2.1 dL_isStep_26 ?_
  refine mm_topL (w := lN (31 * s + kd + 10 * p + 200 * m)) (lN_add (31 * s + kd + 10 * p) (200 * m)) ?_
  refine lv_ldc2 X.1 X.2.1 (v := 2000) X.2.2.2.1 (mw_use X.2.2.2.2.1.1 kw423 rfl) dL_isStep_27 ?_
  refine lv_iload X.1 X.2.1 dL_isStep_30 (lv_at hl 5 rfl) ?_
  refine lv_i2l X.1 X.2.1 (v := lN tt) dL_isStep_32 (nI_l (n := tt) (by omega)) ?_
  refine lv_lmul X.1 X.2.1 dL_isStep_33 ?_
  refine mm_topL (w := lN (2000 * tt)) (lN_mul 2000 tt) ?_
  refine lv_ladd X.1 X.2.1 dL_isStep_34 ?_
  refine mm_topL (w := lN (31 * s + kd + 10 * p + 200 * m + 2000 * tt)) (lN_add (31 * s + kd + 10 * p + 200 * m) (2000 * tt)) ?_
  refine lv_lstore X.1 X.2.1 dL_isStep_35 hl (by decide) rfl (fun ls hl => ?_)
  refine lv_aload_n X.1 X.2.1 dL_isStep_37 rfl (lv_at hl 2 rfl) ?_
  refine lv_bipush X.1 X.2.1 (v := 8) dL_isStep_38 (by decide) ?_
  refine lv_lload X.1 X.2.1 dL_isStep_40 (lv_at hl 0 rfl) ?_
  refine lv_ldc2 X.1 X.2.1 (v := 1000003) X.2.2.2.1 (mw_use X.2.2.2.2.1.1 kw424 rfl) dL_isStep_42 ?_
  refine lv_lrem X.1 X.2.1 dL_isStep_45 (by decide) ?_
  refine mm_topL (w := lN ((31 * s + kd + 10 * p + 200 * m + 2000 * tt) % 1000003)) (pk_lRem (a := 31 * s + kd + 10 * p + 200 * m + 2000 * tt) (b := 1000003) (by omega) (by decide) (by decide)) ?_
  refine lv_l2i X.1 X.2.1 (v := nI ((31 * s + kd + 10 * p + 200 * m + 2000 * tt) % 1000003)) dL_isStep_46 (lN_i ((31 * s + kd + 10 * p + 200 * m + 2000 * tt) % 1000003)) ?_
  refine ml_ast X hT hM (k := 2) (j := 8) (by decide) (by decide) dL_isStep_47 (fun M1 H locs hM hT => ?_)
  refine lv_aload_n X.1 X.2.1 dL_isStep_48 rfl (lv_at hl 2 rfl) ?_
  refine lv_bipush X.1 X.2.1 (v := 7) dL_isStep_49 (by decide) ?_
  refine lv_dup2_11 X.1 X.2.1 dL_isStep_51 rfl rfl ?_
  refine ml_ald X hT hM (k := 2) (j := 7) (by decide) (by decide) dL_isStep_52 ?_
  refine mm_top (w := nI n) (by rw [zs_get, if_pos rfl, if_neg (by omega)]; exact hn) ?_
  refine lv_iconst X.1 X.2.1 (v := 1) dL_isStep_53 (by decide) ?_
  refine lv_iadd X.1 X.2.1 dL_isStep_54 ?_
  refine mm_top (w := nI (n + 1)) (nI_add n 1) ?_
  refine ml_ast X hT hM (k := 2) (j := 7) (by decide) (by decide) dL_isStep_55 (fun M1 H locs hM hT => ?_)
  refine lv_aload_n X.1 X.2.1 dL_isStep_56 rfl (lv_at hl 1 rfl) ?_
  obtain ⟨Mx, Mt, b, w, eM, hds, eo, hA, ho, hL⟩ := hM
  have hT := mw_T_eq eM hT
  have hcc := c_steps hfl hA ho hX
  rw [eo] at hcc
  have hgg := hA.gate
  rw [eo] at hgg
  refine mr_go X hT hds (mr_runV X hT cb_RL_19 kw426 kw427 kw428 (b := o) (As := []) hcc (mr_cell X hT (mw_or_l hgg) rfl) rfl rfl hl.1 ⟨Nat.le_of_ble_eq_true rfl, Nat.le_of_ble_eq_true rfl⟩ (Nat.le_of_ble_eq_true rfl) dL_isStep_57 ⟨Nat.le_of_ble_eq_true rfl, Nat.le_of_ble_eq_true rfl⟩) (fun v M1 H locs hp hds hT => ?_)
  obtain ⟨r, rfl, rfl, e9⟩ := hp
  subst e9
  have hM : LW G o ad x (zs (zs z 2 (8) (nI ((31 * s + kd + 10 * p + 200 * m + 2000 * tt) % 1000003))) 2 (7) (nI (n + 1))) (mw_or Mx Mt) := ⟨Mx, Mt, b, w, rfl, hds, eo, hA, ho, hL⟩
  clear hA ho hL hcc hgg eo
  obtain ⟨M2, eM2⟩ : ∃ M2, M2 = mw_or Mx Mt := ⟨_, rfl⟩
  rw [← eM2] at hM
  have hT := mw_T_eq eM2.symm hT
  clear eM2 hds eM
  refine W.eq (g2 := F0 zm 60 ls (.int (nI (ct x 32)) :: _)) rfl ?_
  refine lv_aload_n X.1 X.2.1 dL_isStep_60 rfl (lv_at hl 2 rfl) ?_
  refine lv_bipush X.1 X.2.1 (v := 7) dL_isStep_61 (by decide) ?_
  refine ml_ald X hT hM (k := 2) (j := 7) (by decide) (by decide) dL_isStep_63 ?_
  refine mm_top (w := nI (n + 1)) (by rw [zs_get, if_pos rfl, if_pos rfl]) ?_
  refine lv_icmp_lt X.1 X.2.1 (tgt := 102) dL_isStep_64 (by decide) (fun c64 => absurd c64 (nI_nlt (a := ct x 32) (b := n + 1) (by omega) (by omega))) (fun c64 => ?_)
  refine lv_aload_n X.1 X.2.1 dL_isStep_67 rfl (lv_at hl 1 rfl) ?_
  refine lv_aload_n X.1 X.2.1 dL_isStep_68 rfl (lv_at hl 2 rfl) ?_
  refine lv_bipush X.1 X.2.1 (v := 7) dL_isStep_69 (by decide) ?_
  refine ml_ald X hT hM (k := 2) (j := 7) (by decide) (by decide) dL_isStep_71 ?_
  refine mm_top (w := nI (n + 1)) (by rw [zs_get, if_pos rfl, if_pos rfl]) ?_
  refine lv_iconst X.1 X.2.1 (v := 1) dL_isStep_72 (by decide) ?_
  refine lv_isub X.1 X.2.1 dL_isStep_73 ?_
  refine mm_top (w := nI n) (nI_pred n) ?_
  obtain ⟨Mx, Mt, b, w, eM, hds, eo, hA, ho, hL⟩ := hM
  have hT := mw_T_eq eM hT
  have hcc := c_kindOK (j := n) hfl hA hX h6
  rw [eo] at hcc
  have hgg := hA.gate
  rw [eo] at hgg
  refine mr_go X hT hds (mr_runV X hT cb_RL_25 kw430 kw431 kw432 (b := o) (As := [.int (nI n)]) hcc (mr_cell X hT (mw_or_l hgg) rfl) rfl rfl hl.1 ⟨Nat.le_of_ble_eq_true rfl, Nat.le_of_ble_eq_true rfl⟩ (Nat.le_of_ble_eq_true rfl) dL_isStep_74 ⟨Nat.le_of_ble_eq_true rfl, Nat.le_of_ble_eq_true rfl⟩) (fun v M1 H locs hp hds hT => ?_)
  obtain ⟨r, rfl, rfl, e9⟩ := hp
  subst e9
  have hM : LW G o ad x (zs (zs z 2 (8) (nI ((31 * s + kd + 10 * p + 200 * m + 2000 * tt) % 1000003))) 2 (7) (nI (n + 1))) (mw_or Mx Mt) := ⟨Mx, Mt, b, w, rfl, hds, eo, hA, ho, hL⟩
  clear hA ho hL hcc hgg eo
  obtain ⟨M2, eM2⟩ : ∃ M2, M2 = mw_or Mx Mt := ⟨_, rfl⟩
  rw [← eM2] at hM
  have hT := mw_T_eq eM2.symm hT
  clear eM2 hds eM
  refine W.eq (g2 := F0 zm 77 ls (.int (cg x 30 n) :: _)) rfl ?_
  refine mm_top (w := nI kd) h7 ?_
  refine lv_iload_n X.1 X.2.1 dL_isStep_77 rfl (lv_at hl 3 rfl) ?_
  refine lv_icmp_ne X.1 X.2.1 (tgt := 102) dL_isStep_78 (by decide) (fun c78 => absurd c78 (fun h => h rfl)) (fun c78 => ?_)
  refine lv_aload_n X.1 X.2.1 dL_isStep_81 rfl (lv_at hl 1 rfl) ?_
  refine lv_aload_n X.1 X.2.1 dL_isStep_82 rfl (lv_at hl 2 rfl) ?_
  refine lv_bipush X.1 X.2.1 (v := 7) dL_isStep_83 (by decide) ?_
  refine ml_ald X hT hM (k := 2) (j := 7) (by decide) (by decide) dL_isStep_85 ?_
  refine mm_top (w := nI (n + 1)) (by rw [zs_get, if_pos rfl, if_pos rfl]) ?_
  refine lv_iconst X.1 X.2.1 (v := 1) dL_isStep_86 (by decide) ?_
  refine lv_isub X.1 X.2.1 dL_isStep_87 ?_
  refine mm_top (w := nI n) (nI_pred n) ?_
  obtain ⟨Mx, Mt, b, w, eM, hds, eo, hA, ho, hL⟩ := hM
  have hT := mw_T_eq eM hT
  have hcc := c_sealOK (j := n) hfl hA hX h6
  rw [eo] at hcc
  have hgg := hA.gate
  rw [eo] at hgg
  refine mr_go X hT hds (mr_runV X hT cb_RL_29 kw439 kw440 kw441 (b := o) (As := [.int (nI n)]) hcc (mr_cell X hT (mw_or_l hgg) rfl) rfl rfl hl.1 ⟨Nat.le_of_ble_eq_true rfl, Nat.le_of_ble_eq_true rfl⟩ (Nat.le_of_ble_eq_true rfl) dL_isStep_88 ⟨Nat.le_of_ble_eq_true rfl, Nat.le_of_ble_eq_true rfl⟩) (fun v M1 H locs hp hds hT => ?_)
  obtain ⟨r, rfl, rfl, e9⟩ := hp
  subst e9
  have hM : LW G o ad x (zs (zs z 2 (8) (nI ((31 * s + kd + 10 * p + 200 * m + 2000 * tt) % 1000003))) 2 (7) (nI (n + 1))) (mw_or Mx Mt) := ⟨Mx, Mt, b, w, rfl, hds, eo, hA, ho, hL⟩
  clear hA ho hL hcc hgg eo
  obtain ⟨M2, eM2⟩ : ∃ M2, M2 = mw_or Mx Mt := ⟨_, rfl⟩
  rw [← eM2] at hM
  have hT := mw_T_eq eM2.symm hT
  clear eM2 hds eM
  refine W.eq (g2 := F0 zm 91 ls (.int (cg x 31 n) :: _)) rfl ?_
  refine mm_top (w := nI ((31 * s + kd + 10 * p + 200 * m + 2000 * tt) % 1000003)) h8 ?_
  refine lv_aload_n X.1 X.2.1 dL_isStep_91 rfl (lv_at hl 2 rfl) ?_
  refine lv_bipush X.1 X.2.1 (v := 8) dL_isStep_92 (by decide) ?_
  refine ml_ald X hT hM (k := 2) (j := 8) (by decide) (by decide) dL_isStep_94 ?_
  refine mm_top (w := nI ((31 * s + kd + 10 * p + 200 * m + 2000 * tt) % 1000003)) (by rw [zs_get, if_pos rfl, if_neg (by omega), zs_get, if_pos rfl, if_pos rfl]) ?_
  refine lv_icmp_ne X.1 X.2.1 (tgt := 102) dL_isStep_95 (by decide) (fun c95 => absurd c95 (fun h => h rfl)) (fun c95 => ?_)
  refine lv_iconst X.1 X.2.1 (v := 1) dL_isStep_98 (by decide) ?_
  refine lv_goto X.1 X.2.1 (tgt := 103) dL_isStep_99 (by decide) ?_
  exact mr_zret X hT hret (by first | rfl | decide | exact bI_nar _) (⟨_, rfl, rfl, hM⟩) (Nat.le_of_ble_eq_true rfl) (Nat.le_of_ble_eq_true rfl) dL_isStep_103

abbrev rm_L_end : Room := { frames := 0, cells := 0, slots := 0, locals := 0 }
set_option maxHeartbeats 4000000 in
set_option maxRecDepth 100000 in
theorem k_end {l : Launch} (hfl : l.stackTraces = false) {G : mw_G} {o : Nat} {ad : Nat → Nat} {x y : s_T} {z : Nat → Nat → Int32} {M : mw_M} {u v : Nat} (hM : LW G o ad x z M) (hR : LR y z) (hI : LI y) (hV : q_inv 512 y) (hu : u < 12) (hv : v < 8) : mw_Met l G yL_end (.code yL_end cL_end 4 none) rm_L_end [.ref (ad 3), .ref (ad 2), .int (nI (8 * u + v))] M (mw_pv (fun M1 => ∃ z1 : Nat → Nat → Int32, LR (q_ends y (nI u) (nI v)) z1 ∧ LW G o ad x z1 M1)) := by
  refine mw_of hfl (by decide) (Nat.le_of_ble_eq_true rfl) ?_
  intro zp ze zs_ zm zb zh zc ls X hin hret hT hl
  have hl : lv_has ls 4 [(0, .ref (ad 3)), (1, .ref (ad 2)), (2, .int (nI (8 * u + v)))] := hl
  obtain ⟨i2, i4, i10, i17, i22, i29, ilb, ils, ie, is_⟩ := id hI
  obtain ⟨v2, v4, v5⟩ := hV.le
  refine lv_iconst X.1 X.2.1 (v := 0) dL_end_0 (by decide) ?_
  refine lv_istore_n X.1 X.2.1 dL_end_1 rfl hl (by decide) rfl (fun ls hl => ?_)
  refine W.widen (k := (fun _ => 0) 0) (n := (fun _ => 0) 0) (show ((0) : Nat) ≤ 0 by omega) (show ((0) : Nat) ≤ 0 by omega) ?_
  refine mw_loopC (nL := 4) (n := ct y 10) (fun k M1 => ∃ z1 : Nat → Nat → Int32, LR (cf y 9 (q_endf y (nI u) (nI v) k)) z1 ∧ LW G o ad x z1 M1) (fun k => [(3, .int (nI k)), (0, .ref (ad 3)), (1, .ref (ad 2)), (2, .int (nI (8 * u + v)))]) (fun _ => 0) (fun _ => 0) (fun k hk ih2 M1 H locs ls hM hT hl => ?_) ⟨z, by rw [q_endf_0]; exact hR, hM⟩ hT (lv_sub hl [0, 1, 2, 3] rfl)
  obtain ⟨z1, hR1, hM⟩ := hM
  refine lv_iload_n X.1 X.2.1 dL_end_2 rfl (lv_at hl 0 rfl) ?_
  refine lv_aload_n X.1 X.2.1 dL_end_3 rfl (lv_at hl 2 rfl) ?_
  refine lv_iconst X.1 X.2.1 (v := 3) dL_end_4 (by decide) ?_
  refine ml_ald X hT hM (k := 2) (j := 3) (by decide) (by decide) dL_end_5 ?_
  refine mm_top (w := nI (ct y 10)) (hR1.2.2.1.2.2.2.1) ?_
  refine lv_icmp_ge X.1 X.2.1 (tgt := 70) dL_end_6 (by decide) (fun c6 => ?_) (fun c6 => ?_)
  · skip
    have hkn := mm_exit hk (show ct y 10 < 2 ^ 31 by omega) c6
    subst hkn
    exact mr_vret X hT hret (⟨rfl, z1, hR1, hM⟩) (Nat.le_of_ble_eq_true rfl) (Nat.le_of_ble_eq_true rfl) dL_end_70
  · skip
    have hkl := mm_stay hk (show ct y 10 < 2 ^ 31 by omega) c6
    have eH := l_hold1e hR1 hV hu hv hkl
    have q3 : z1 3 (3 * k + 2) = cg y 9 k := (hR1.2.2.2.1 k hkl).2.2.trans (q_endf_k _ _ _ _)
    refine lv_aload_n X.1 X.2.1 dL_end_9 rfl (lv_at hl 1 rfl) ?_
    refine lv_iconst X.1 X.2.1 (v := 3) dL_end_10 (by decide) ?_
    refine lv_iload_n X.1 X.2.1 dL_end_11 rfl (lv_at hl 0 rfl) ?_
    refine lv_imul X.1 X.2.1 dL_end_12 ?_
    refine mm_top (w := nI (3 * k)) (pk_mul 3 k) ?_
    refine lv_iconst X.1 X.2.1 (v := 2) dL_end_13 (by decide) ?_
    refine lv_iadd X.1 X.2.1 dL_end_14 ?_
    refine mm_top (w := nI (3 * k + 2)) (nI_add (3 * k) 2) ?_
    refine mw_join hT 63 (0) (0) (fun r M1 => r = q_endf y (nI u) (nI v) (k + 1) k ∧ LW G o ad x z1 M1) (fun r M1 H locs hp hT => ?_) (fun J63 => ?_)
    · obtain ⟨rfl, hM⟩ := hp
      refine ml_ast X hT hM (k := 3) (j := 3 * k + 2) (by decide) (show 3 * k + 2 < 63 by omega) dL_end_63 (fun M1 H locs hM hT => ?_)
      refine lv_iinc X.1 X.2.1 (k := 0) (v := nI (k + 1)) dL_end_64 hl rfl (mm_inc (k)) (by decide) rfl (fun ls hl => ?_)
      refine lv_goto X.1 X.2.1 (tgt := 2) dL_end_67 (by decide) ?_
      refine W.widen (k := 0) (n := 0) (show ((0) : Nat) ≤ 0 by omega) (show ((0) : Nat) ≤ 0 by omega) ?_
      exact ih2 (by omega) _ _ _ _ (⟨_, by rw [← q_endf_s]; exact hR1.s9 k _, hM⟩) hT (lv_sub hl [0, 1, 2, 3] rfl)
    · skip
      refine lv_aload_n X.1 X.2.1 dL_end_15 rfl (lv_at hl 1 rfl) ?_
      refine lv_iconst X.1 X.2.1 (v := 3) dL_end_16 (by decide) ?_
      refine lv_iload_n X.1 X.2.1 dL_end_17 rfl (lv_at hl 0 rfl) ?_
      refine lv_imul X.1 X.2.1 dL_end_18 ?_
      refine mm_top (w := nI (3 * k)) (pk_mul 3 k) ?_
      refine ml_ald X hT hM (k := 3) (j := 3 * k) (by decide) (show 3 * k < 63 by omega) dL_end_19 ?_
      refine lv_iload_n X.1 X.2.1 dL_end_20 rfl (lv_at hl 3 rfl) ?_
      refine lv_icmp_ne X.1 X.2.1 (tgt := 56) dL_end_21 (by decide) (fun c21 => ?_) (fun c21 => ?_)
      · skip
        refine lv_aload_n X.1 X.2.1 dL_end_56 rfl (lv_at hl 1 rfl) ?_
        refine lv_iconst X.1 X.2.1 (v := 3) dL_end_57 (by decide) ?_
        refine lv_iload_n X.1 X.2.1 dL_end_58 rfl (lv_at hl 0 rfl) ?_
        refine lv_imul X.1 X.2.1 dL_end_59 ?_
        refine mm_top (w := nI (3 * k)) (pk_mul 3 k) ?_
        refine lv_iconst X.1 X.2.1 (v := 2) dL_end_60 (by decide) ?_
        refine lv_iadd X.1 X.2.1 dL_end_61 ?_
        refine mm_top (w := nI (3 * k + 2)) (nI_add (3 * k) 2) ?_
        refine ml_ald X hT hM (k := 3) (j := 3 * k + 2) (by decide) (show 3 * k + 2 < 63 by omega) dL_end_62 ?_
        refine W.widen (k := 0) (n := 0) (show ((0) : Nat) ≤ 0 by omega) (show ((0) : Nat) ≤ 0 by omega) ?_
        exact J63 _ _ _ _ ⟨by unfold q_endf; simp only [eH]; rw [← q3]; first | (simp [c21]; done) | (simp [c21, Int32.not_le.mpr c34]; done) | (simp [c21, Int32.not_lt.mp c34, Int32.not_lt.mpr c47]; done) | (simp [c21, Int32.not_lt.mp c34, Int32.not_le.mp c47]; done), hM⟩ hT
      · skip
        refine lv_aload_n X.1 X.2.1 dL_end_24 rfl (lv_at hl 1 rfl) ?_
        refine lv_iconst X.1 X.2.1 (v := 3) dL_end_25 (by decide) ?_
        refine lv_iload_n X.1 X.2.1 dL_end_26 rfl (lv_at hl 0 rfl) ?_
        refine lv_imul X.1 X.2.1 dL_end_27 ?_
        refine mm_top (w := nI (3 * k)) (pk_mul 3 k) ?_
        refine lv_iconst X.1 X.2.1 (v := 1) dL_end_28 (by decide) ?_
        refine lv_iadd X.1 X.2.1 dL_end_29 ?_
        refine mm_top (w := nI (3 * k + 1)) (nI_add (3 * k) 1) ?_
        refine ml_ald X hT hM (k := 3) (j := 3 * k + 1) (by decide) (show 3 * k + 1 < 63 by omega) dL_end_30 ?_
        refine lv_aload_n X.1 X.2.1 dL_end_31 rfl (lv_at hl 2 rfl) ?_
        refine lv_iconst X.1 X.2.1 (v := 2) dL_end_32 (by decide) ?_
        refine ml_ald X hT hM (k := 2) (j := 2) (by decide) (by decide) dL_end_33 ?_
        refine mm_top (w := nI (ct y 5)) (hR1.2.2.1.2.2.1) ?_
        refine lv_icmp_gt X.1 X.2.1 (tgt := 56) dL_end_34 (by decide) (fun c34 => ?_) (fun c34 => ?_)
        · skip
          refine lv_aload_n X.1 X.2.1 dL_end_56 rfl (lv_at hl 1 rfl) ?_
          refine lv_iconst X.1 X.2.1 (v := 3) dL_end_57 (by decide) ?_
          refine lv_iload_n X.1 X.2.1 dL_end_58 rfl (lv_at hl 0 rfl) ?_
          refine lv_imul X.1 X.2.1 dL_end_59 ?_
          refine mm_top (w := nI (3 * k)) (pk_mul 3 k) ?_
          refine lv_iconst X.1 X.2.1 (v := 2) dL_end_60 (by decide) ?_
          refine lv_iadd X.1 X.2.1 dL_end_61 ?_
          refine mm_top (w := nI (3 * k + 2)) (nI_add (3 * k) 2) ?_
          refine ml_ald X hT hM (k := 3) (j := 3 * k + 2) (by decide) (show 3 * k + 2 < 63 by omega) dL_end_62 ?_
          refine W.widen (k := 0) (n := 0) (show ((0) : Nat) ≤ 0 by omega) (show ((0) : Nat) ≤ 0 by omega) ?_
          exact J63 _ _ _ _ ⟨by unfold q_endf; simp only [eH]; rw [← q3]; first | (simp [c21]; done) | (simp [c21, Int32.not_le.mpr c34]; done) | (simp [c21, Int32.not_lt.mp c34, Int32.not_lt.mpr c47]; done) | (simp [c21, Int32.not_lt.mp c34, Int32.not_le.mp c47]; done), hM⟩ hT
        · skip
          refine lv_aload_n X.1 X.2.1 dL_end_37 rfl (lv_at hl 1 rfl) ?_
          refine lv_iconst X.1 X.2.1 (v := 3) dL_end_38 (by decide) ?_
          refine lv_iload_n X.1 X.2.1 dL_end_39 rfl (lv_at hl 0 rfl) ?_
          refine lv_imul X.1 X.2.1 dL_end_40 ?_
          refine mm_top (w := nI (3 * k)) (pk_mul 3 k) ?_
          refine lv_iconst X.1 X.2.1 (v := 2) dL_end_41 (by decide) ?_
          refine lv_iadd X.1 X.2.1 dL_end_42 ?_
          refine mm_top (w := nI (3 * k + 2)) (nI_add (3 * k) 2) ?_
          refine ml_ald X hT hM (k := 3) (j := 3 * k + 2) (by decide) (show 3 * k + 2 < 63 by omega) dL_end_43 ?_
          refine lv_aload_n X.1 X.2.1 dL_end_44 rfl (lv_at hl 2 rfl) ?_
          refine lv_iconst X.1 X.2.1 (v := 2) dL_end_45 (by decide) ?_
          refine ml_ald X hT hM (k := 2) (j := 2) (by decide) (by decide) dL_end_46 ?_
          refine mm_top (w := nI (ct y 5)) (hR1.2.2.1.2.2.1) ?_
          refine lv_icmp_le X.1 X.2.1 (tgt := 56) dL_end_47 (by decide) (fun c47 => ?_) (fun c47 => ?_)
          · skip
            refine lv_aload_n X.1 X.2.1 dL_end_56 rfl (lv_at hl 1 rfl) ?_
            refine lv_iconst X.1 X.2.1 (v := 3) dL_end_57 (by decide) ?_
            refine lv_iload_n X.1 X.2.1 dL_end_58 rfl (lv_at hl 0 rfl) ?_
            refine lv_imul X.1 X.2.1 dL_end_59 ?_
            refine mm_top (w := nI (3 * k)) (pk_mul 3 k) ?_
            refine lv_iconst X.1 X.2.1 (v := 2) dL_end_60 (by decide) ?_
            refine lv_iadd X.1 X.2.1 dL_end_61 ?_
            refine mm_top (w := nI (3 * k + 2)) (nI_add (3 * k) 2) ?_
            refine ml_ald X hT hM (k := 3) (j := 3 * k + 2) (by decide) (show 3 * k + 2 < 63 by omega) dL_end_62 ?_
            refine W.widen (k := 0) (n := 0) (show ((0) : Nat) ≤ 0 by omega) (show ((0) : Nat) ≤ 0 by omega) ?_
            exact J63 _ _ _ _ ⟨by unfold q_endf; simp only [eH]; rw [← q3]; first | (simp [c21]; done) | (simp [c21, Int32.not_le.mpr c34]; done) | (simp [c21, Int32.not_lt.mp c34, Int32.not_lt.mpr c47]; done) | (simp [c21, Int32.not_lt.mp c34, Int32.not_le.mp c47]; done), hM⟩ hT
          · skip
            refine lv_aload_n X.1 X.2.1 dL_end_50 rfl (lv_at hl 2 rfl) ?_
            refine lv_iconst X.1 X.2.1 (v := 2) dL_end_51 (by decide) ?_
            refine ml_ald X hT hM (k := 2) (j := 2) (by decide) (by decide) dL_end_52 ?_
            refine mm_top (w := nI (ct y 5)) (hR1.2.2.1.2.2.1) ?_
            refine lv_goto X.1 X.2.1 (tgt := 63) dL_end_53 (by decide) ?_
            refine W.widen (k := 0) (n := 0) (show ((0) : Nat) ≤ 0 by omega) (show ((0) : Nat) ≤ 0 by omega) ?_
            exact J63 _ _ _ _ ⟨by unfold q_endf; simp only [eH]; rw [← q3]; first | (simp [c21]; done) | (simp [c21, Int32.not_le.mpr c34]; done) | (simp [c21, Int32.not_lt.mp c34, Int32.not_lt.mpr c47]; done) | (simp [c21, Int32.not_lt.mp c34, Int32.not_le.mp c47]; done), hM⟩ hT

abbrev rm_L_deny : Room := { frames := 0, cells := 0, slots := 0, locals := 0 }
set_option maxHeartbeats 4000000 in
set_option maxRecDepth 100000 in
theorem k_deny {l : Launch} (hfl : l.stackTraces = false) {G : mw_G} {o : Nat} {ad : Nat → Nat} {x y : s_T} {z : Nat → Nat → Int32} {M : mw_M} {u v : Nat} (hM : LW G o ad x z M) (hR : LR y z) (hI : LI y) (hV : q_inv 512 y) (hu : u < 12) (hv : v < 8) : mw_Met l G yL_deny (.code yL_deny cL_deny 4 none) rm_L_deny [.ref (ad 4), .ref (ad 2), .int (nI (8 * u + v))] M (mw_pv (fun M1 => ∃ z1 : Nat → Nat → Int32, LR (q_denies y (nI u) (nI v)) z1 ∧ LW G o ad x z1 M1)) := by
  refine mw_of hfl (by decide) (Nat.le_of_ble_eq_true rfl) ?_
  intro zp ze zs_ zm zb zh zc ls X hin hret hT hl
  have hl : lv_has ls 4 [(0, .ref (ad 4)), (1, .ref (ad 2)), (2, .int (nI (8 * u + v)))] := hl
  obtain ⟨i2, i4, i10, i17, i22, i29, ilb, ils, ie, is_⟩ := id hI
  obtain ⟨v2, v4, v5⟩ := hV.le
  refine lv_iconst X.1 X.2.1 (v := 0) dL_deny_0 (by decide) ?_
  refine lv_istore_n X.1 X.2.1 dL_deny_1 rfl hl (by decide) rfl (fun ls hl => ?_)
  refine W.widen (k := (fun _ => 0) 0) (n := (fun _ => 0) 0) (show ((0) : Nat) ≤ 0 by omega) (show ((0) : Nat) ≤ 0 by omega) ?_
  refine mw_loopC (nL := 4) (n := ct y 17) (fun k M1 => ∃ z1 : Nat → Nat → Int32, LR (cf y 15 (q_denyf y (nI u) (nI v) k)) z1 ∧ LW G o ad x z1 M1) (fun k => [(3, .int (nI k)), (0, .ref (ad 4)), (1, .ref (ad 2)), (2, .int (nI (8 * u + v)))]) (fun _ => 0) (fun _ => 0) (fun k hk ih2 M1 H locs ls hM hT hl => ?_) ⟨z, by rw [q_denyf_0]; exact hR, hM⟩ hT (lv_sub hl [0, 1, 2, 3] rfl)
  obtain ⟨z1, hR1, hM⟩ := hM
  refine lv_iload_n X.1 X.2.1 dL_deny_2 rfl (lv_at hl 0 rfl) ?_
  refine lv_aload_n X.1 X.2.1 dL_deny_3 rfl (lv_at hl 2 rfl) ?_
  refine lv_iconst X.1 X.2.1 (v := 4) dL_deny_4 (by decide) ?_
  refine ml_ald X hT hM (k := 2) (j := 4) (by decide) (by decide) dL_deny_5 ?_
  refine mm_top (w := nI (ct y 17)) (hR1.2.2.1.2.2.2.2.1) ?_
  refine lv_icmp_ge X.1 X.2.1 (tgt := 52) dL_deny_6 (by decide) (fun c6 => ?_) (fun c6 => ?_)
  · skip
    have hkn := mm_exit hk (show ct y 17 < 2 ^ 31 by omega) c6
    subst hkn
    exact mr_vret X hT hret (⟨rfl, z1, hR1, hM⟩) (Nat.le_of_ble_eq_true rfl) (Nat.le_of_ble_eq_true rfl) dL_deny_52
  · skip
    have hkl := mm_stay hk (show ct y 17 < 2 ^ 31 by omega) c6
    have eH := l_deny1e hR1 hV hu hv hkl
    have q3 : z1 4 (5 * k + 3) = cg y 15 k := (hR1.2.2.2.2.1 k hkl).2.2.2.1.trans (q_denyf_k _ _ _ _)
    refine lv_aload_n X.1 X.2.1 dL_deny_9 rfl (lv_at hl 1 rfl) ?_
    refine lv_iconst X.1 X.2.1 (v := 5) dL_deny_10 (by decide) ?_
    refine lv_iload_n X.1 X.2.1 dL_deny_11 rfl (lv_at hl 0 rfl) ?_
    refine lv_imul X.1 X.2.1 dL_deny_12 ?_
    refine mm_top (w := nI (5 * k)) (pk_mul 5 k) ?_
    refine lv_iconst X.1 X.2.1 (v := 3) dL_deny_13 (by decide) ?_
    refine lv_iadd X.1 X.2.1 dL_deny_14 ?_
    refine mm_top (w := nI (5 * k + 3)) (nI_add (5 * k) 3) ?_
    refine mw_join hT 45 (0) (0) (fun r M1 => r = q_denyf y (nI u) (nI v) (k + 1) k ∧ LW G o ad x z1 M1) (fun r M1 H locs hp hT => ?_) (fun J45 => ?_)
    · obtain ⟨rfl, hM⟩ := hp
      refine ml_ast X hT hM (k := 4) (j := 5 * k + 3) (by decide) (show 5 * k + 3 < 60 by omega) dL_deny_45 (fun M1 H locs hM hT => ?_)
      refine lv_iinc X.1 X.2.1 (k := 0) (v := nI (k + 1)) dL_deny_46 hl rfl (mm_inc (k)) (by decide) rfl (fun ls hl => ?_)
      refine lv_goto X.1 X.2.1 (tgt := 2) dL_deny_49 (by decide) ?_
      refine W.widen (k := 0) (n := 0) (show ((0) : Nat) ≤ 0 by omega) (show ((0) : Nat) ≤ 0 by omega) ?_
      exact ih2 (by omega) _ _ _ _ (⟨_, by rw [← q_denyf_s]; exact hR1.s15 k _, hM⟩) hT (lv_sub hl [0, 1, 2, 3] rfl)
    · skip
      refine lv_aload_n X.1 X.2.1 dL_deny_15 rfl (lv_at hl 1 rfl) ?_
      refine lv_iconst X.1 X.2.1 (v := 5) dL_deny_16 (by decide) ?_
      refine lv_iload_n X.1 X.2.1 dL_deny_17 rfl (lv_at hl 0 rfl) ?_
      refine lv_imul X.1 X.2.1 dL_deny_18 ?_
      refine mm_top (w := nI (5 * k)) (pk_mul 5 k) ?_
      refine ml_ald X hT hM (k := 4) (j := 5 * k) (by decide) (show 5 * k < 60 by omega) dL_deny_19 ?_
      refine lv_iload_n X.1 X.2.1 dL_deny_20 rfl (lv_at hl 3 rfl) ?_
      refine lv_icmp_ne X.1 X.2.1 (tgt := 38) dL_deny_21 (by decide) (fun c21 => ?_) (fun c21 => ?_)
      · skip
        refine lv_aload_n X.1 X.2.1 dL_deny_38 rfl (lv_at hl 1 rfl) ?_
        refine lv_iconst X.1 X.2.1 (v := 5) dL_deny_39 (by decide) ?_
        refine lv_iload_n X.1 X.2.1 dL_deny_40 rfl (lv_at hl 0 rfl) ?_
        refine lv_imul X.1 X.2.1 dL_deny_41 ?_
        refine mm_top (w := nI (5 * k)) (pk_mul 5 k) ?_
        refine lv_iconst X.1 X.2.1 (v := 3) dL_deny_42 (by decide) ?_
        refine lv_iadd X.1 X.2.1 dL_deny_43 ?_
        refine mm_top (w := nI (5 * k + 3)) (nI_add (5 * k) 3) ?_
        refine ml_ald X hT hM (k := 4) (j := 5 * k + 3) (by decide) (show 5 * k + 3 < 60 by omega) dL_deny_44 ?_
        refine W.widen (k := 0) (n := 0) (show ((0) : Nat) ≤ 0 by omega) (show ((0) : Nat) ≤ 0 by omega) ?_
        exact J45 _ _ _ _ ⟨by unfold q_denyf; simp only [eH]; rw [← q3]; first | (simp [c21]; done) | (simp [c21, c31]; done), hM⟩ hT
      · skip
        refine lv_aload_n X.1 X.2.1 dL_deny_24 rfl (lv_at hl 1 rfl) ?_
        refine lv_iconst X.1 X.2.1 (v := 5) dL_deny_25 (by decide) ?_
        refine lv_iload_n X.1 X.2.1 dL_deny_26 rfl (lv_at hl 0 rfl) ?_
        refine lv_imul X.1 X.2.1 dL_deny_27 ?_
        refine mm_top (w := nI (5 * k)) (pk_mul 5 k) ?_
        refine lv_iconst X.1 X.2.1 (v := 3) dL_deny_28 (by decide) ?_
        refine lv_iadd X.1 X.2.1 dL_deny_29 ?_
        refine mm_top (w := nI (5 * k + 3)) (nI_add (5 * k) 3) ?_
        refine ml_ald X hT hM (k := 4) (j := 5 * k + 3) (by decide) (show 5 * k + 3 < 60 by omega) dL_deny_30 ?_
        refine lv_if_ne X.1 X.2.1 (tgt := 38) dL_deny_31 (by decide) (fun c31 => ?_) (fun c31 => ?_)
        · skip
          refine lv_aload_n X.1 X.2.1 dL_deny_38 rfl (lv_at hl 1 rfl) ?_
          refine lv_iconst X.1 X.2.1 (v := 5) dL_deny_39 (by decide) ?_
          refine lv_iload_n X.1 X.2.1 dL_deny_40 rfl (lv_at hl 0 rfl) ?_
          refine lv_imul X.1 X.2.1 dL_deny_41 ?_
          refine mm_top (w := nI (5 * k)) (pk_mul 5 k) ?_
          refine lv_iconst X.1 X.2.1 (v := 3) dL_deny_42 (by decide) ?_
          refine lv_iadd X.1 X.2.1 dL_deny_43 ?_
          refine mm_top (w := nI (5 * k + 3)) (nI_add (5 * k) 3) ?_
          refine ml_ald X hT hM (k := 4) (j := 5 * k + 3) (by decide) (show 5 * k + 3 < 60 by omega) dL_deny_44 ?_
          refine W.widen (k := 0) (n := 0) (show ((0) : Nat) ≤ 0 by omega) (show ((0) : Nat) ≤ 0 by omega) ?_
          exact J45 _ _ _ _ ⟨by unfold q_denyf; simp only [eH]; rw [← q3]; first | (simp [c21]; done) | (simp [c21, c31]; done), hM⟩ hT
        · skip
          refine lv_iconst X.1 X.2.1 (v := 2) dL_deny_34 (by decide) ?_
          refine lv_goto X.1 X.2.1 (tgt := 45) dL_deny_35 (by decide) ?_
          refine W.widen (k := 0) (n := 0) (show ((0) : Nat) ≤ 0 by omega) (show ((0) : Nat) ≤ 0 by omega) ?_
          exact J45 _ _ _ _ ⟨by unfold q_denyf; simp only [eH]; rw [← q3]; first | (simp [c21]; done) | (simp [c21, c31]; done), hM⟩ hT

abbrev rm_L_give : Room := { frames := 0, cells := 0, slots := 0, locals := 0 }
set_option maxHeartbeats 4000000 in
set_option maxRecDepth 100000 in
theorem k_give {l : Launch} (hfl : l.stackTraces = false) {G : mw_G} {o : Nat} {ad : Nat → Nat} {x y : s_T} {z : Nat → Nat → Int32} {M : mw_M} {u v : Nat} {t : Int32} (hM : LW G o ad x z M) (hR : LR y z) (h10 : ct y 10 ≤ 20) : mw_Met l G yL_give (.code yL_give cL_give 4 none) rm_L_give [.ref (ad 3), .ref (ad 2), .int (nI (8 * u + v)), .int t] M (mw_pv (fun M1 => ∃ z1 : Nat → Nat → Int32, LR (q_grant y (nI u) (nI v) t) z1 ∧ LW G o ad x z1 M1)) := by
  refine mw_of hfl (by decide) (Nat.le_of_ble_eq_true rfl) ?_
  intro zp ze zs_ zm zb zh zc ls X hin hret hT hl
  have hl : lv_has ls 4 [(0, .ref (ad 3)), (1, .ref (ad 2)), (2, .int (nI (8 * u + v))), (3, .int t)] := hl
  refine lv_aload_n X.1 X.2.1 dL_give_0 rfl (lv_at hl 0 rfl) ?_
  refine lv_iconst X.1 X.2.1 (v := 3) dL_give_1 (by decide) ?_
  refine lv_aload_n X.1 X.2.1 dL_give_2 rfl (lv_at hl 1 rfl) ?_
  refine lv_iconst X.1 X.2.1 (v := 3) dL_give_3 (by decide) ?_
  refine ml_ald X hT hM (k := 2) (j := 3) (by decide) (by decide) dL_give_4 ?_
  refine mm_top (w := nI (ct y 10)) (hR.2.2.1.2.2.2.1) ?_
  refine lv_imul X.1 X.2.1 dL_give_5 ?_
  refine mm_top (w := nI (3 * (ct y 10))) (pk_mul 3 (ct y 10)) ?_
  refine lv_iload_n X.1 X.2.1 dL_give_6 rfl (lv_at hl 2 rfl) ?_
  refine ml_ast X hT hM (k := 3) (j := 3 * (ct y 10)) (by decide) (show 3 * (ct y 10) < 63 by omega) dL_give_7 (fun M1 H locs hM hT => ?_)
  refine lv_aload_n X.1 X.2.1 dL_give_8 rfl (lv_at hl 0 rfl) ?_
  refine lv_iconst X.1 X.2.1 (v := 3) dL_give_9 (by decide) ?_
  refine lv_aload_n X.1 X.2.1 dL_give_10 rfl (lv_at hl 1 rfl) ?_
  refine lv_iconst X.1 X.2.1 (v := 3) dL_give_11 (by decide) ?_
  refine ml_ald X hT hM (k := 2) (j := 3) (by decide) (by decide) dL_give_12 ?_
  refine mm_top (w := nI (ct y 10)) (by rw [zs_get, if_neg (by decide)]; exact hR.2.2.1.2.2.2.1) ?_
  refine lv_imul X.1 X.2.1 dL_give_13 ?_
  refine mm_top (w := nI (3 * (ct y 10))) (pk_mul 3 (ct y 10)) ?_
  refine lv_iconst X.1 X.2.1 (v := 1) dL_give_14 (by decide) ?_
  refine lv_iadd X.1 X.2.1 dL_give_15 ?_
  refine mm_top (w := nI (3 * (ct y 10) + 1)) (nI_add (3 * (ct y 10)) 1) ?_
  refine lv_aload_n X.1 X.2.1 dL_give_16 rfl (lv_at hl 1 rfl) ?_
  refine lv_iconst X.1 X.2.1 (v := 2) dL_give_17 (by decide) ?_
  refine ml_ald X hT hM (k := 2) (j := 2) (by decide) (by decide) dL_give_18 ?_
  refine mm_top (w := nI (ct y 5)) (by rw [zs_get, if_neg (by decide)]; exact hR.2.2.1.2.2.1) ?_
  refine ml_ast X hT hM (k := 3) (j := 3 * (ct y 10) + 1) (by decide) (show 3 * (ct y 10) + 1 < 63 by omega) dL_give_19 (fun M1 H locs hM hT => ?_)
  refine lv_aload_n X.1 X.2.1 dL_give_20 rfl (lv_at hl 0 rfl) ?_
  refine lv_iconst X.1 X.2.1 (v := 3) dL_give_21 (by decide) ?_
  refine lv_aload_n X.1 X.2.1 dL_give_22 rfl (lv_at hl 1 rfl) ?_
  refine lv_iconst X.1 X.2.1 (v := 3) dL_give_23 (by decide) ?_
  refine ml_ald X hT hM (k := 2) (j := 3) (by decide) (by decide) dL_give_24 ?_
  refine mm_top (w := nI (ct y 10)) (by rw [zs_get, if_neg (by decide), zs_get, if_neg (by decide)]; exact hR.2.2.1.2.2.2.1) ?_
  refine lv_imul X.1 X.2.1 dL_give_25 ?_
  refine mm_top (w := nI (3 * (ct y 10))) (pk_mul 3 (ct y 10)) ?_
  refine lv_iconst X.1 X.2.1 (v := 2) dL_give_26 (by decide) ?_
  refine lv_iadd X.1 X.2.1 dL_give_27 ?_
  refine mm_top (w := nI (3 * (ct y 10) + 2)) (nI_add (3 * (ct y 10)) 2) ?_
  refine lv_aload_n X.1 X.2.1 dL_give_28 rfl (lv_at hl 1 rfl) ?_
  refine lv_iconst X.1 X.2.1 (v := 2) dL_give_29 (by decide) ?_
  refine ml_ald X hT hM (k := 2) (j := 2) (by decide) (by decide) dL_give_30 ?_
  refine mm_top (w := nI (ct y 5)) (by rw [zs_get, if_neg (by decide), zs_get, if_neg (by decide)]; exact hR.2.2.1.2.2.1) ?_
  refine lv_iload_n X.1 X.2.1 dL_give_31 rfl (lv_at hl 3 rfl) ?_
  refine lv_iadd X.1 X.2.1 dL_give_32 ?_
  refine ml_ast X hT hM (k := 3) (j := 3 * (ct y 10) + 2) (by decide) (show 3 * (ct y 10) + 2 < 63 by omega) dL_give_33 (fun M1 H locs hM hT => ?_)
  refine lv_aload_n X.1 X.2.1 dL_give_34 rfl (lv_at hl 1 rfl) ?_
  refine lv_iconst X.1 X.2.1 (v := 3) dL_give_35 (by decide) ?_
  refine lv_dup2_11 X.1 X.2.1 dL_give_36 rfl rfl ?_
  refine ml_ald X hT hM (k := 2) (j := 3) (by decide) (by decide) dL_give_37 ?_
  refine mm_top (w := nI (ct y 10)) (by rw [zs_get, if_neg (by decide), zs_get, if_neg (by decide), zs_get, if_neg (by decide)]; exact hR.2.2.1.2.2.2.1) ?_
  refine lv_iconst X.1 X.2.1 (v := 1) dL_give_38 (by decide) ?_
  refine lv_iadd X.1 X.2.1 dL_give_39 ?_
  refine mm_top (w := nI (ct y 10 + 1)) (nI_add (ct y 10) 1) ?_
  refine ml_ast X hT hM (k := 2) (j := 3) (by decide) (by decide) dL_give_40 (fun M1 H locs hM hT => ?_)
  exact mr_vret X hT hret (⟨rfl, _, LR.grant hR, hM⟩) (Nat.le_of_ble_eq_true rfl) (Nat.le_of_ble_eq_true rfl) dL_give_41

abbrev rm_L_overdue : Room := { frames := 0, cells := 0, slots := 0, locals := 0 }
set_option maxHeartbeats 4000000 in
set_option maxRecDepth 100000 in
theorem k_overdue {l : Launch} (hfl : l.stackTraces = false) {G : mw_G} {o : Nat} {ad : Nat → Nat} {x y : s_T} {z : Nat → Nat → Int32} {M : mw_M} {p : Nat} (hM : LW G o ad x z M) (hR : LR y z) (hI : LI y) (hV : q_inv 512 y) (hp : p < 12) : mw_Met l G yL_overdue (.code yL_overdue cL_overdue 5 (some .int)) rm_L_overdue [.ref (ad 5), .ref (ad 2), .int (nI p)] M (mw_pi (fun r M1 => r = q_over y (nI p) (ct y 22) ∧ LW G o ad x z M1)) := by
  refine mw_of hfl (by decide) (Nat.le_of_ble_eq_true rfl) ?_
  intro zp ze zs_ zm zb zh zc ls X hin hret hT hl
  have hl : lv_has ls 5 [(0, .ref (ad 5)), (1, .ref (ad 2)), (2, .int (nI p))] := hl
  obtain ⟨i2, i4, i10, i17, i22, i29, ilb, ils, ie, is_⟩ := id hI
  obtain ⟨v2, v4, v5⟩ := hV.le
  refine lv_iconst X.1 X.2.1 (v := 0) dL_overdue_0 (by decide) ?_
  refine lv_istore_n X.1 X.2.1 dL_overdue_1 rfl hl (by decide) rfl (fun ls hl => ?_)
  refine lv_iconst X.1 X.2.1 (v := 0) dL_overdue_2 (by decide) ?_
  refine lv_istore X.1 X.2.1 dL_overdue_3 hl (by decide) rfl (fun ls hl => ?_)
  refine W.widen (k := (fun _ => 0) 0) (n := (fun _ => 0) 0) (show ((0) : Nat) ≤ 0 by omega) (show ((0) : Nat) ≤ 0 by omega) ?_
  refine mw_loopC (nL := 5) (n := ct y 22) (fun k M1 => LW G o ad x z M1) (fun k => [(4, .int (nI k)), (3, .int (q_over y (nI p) k)), (0, .ref (ad 5)), (1, .ref (ad 2)), (2, .int (nI p))]) (fun _ => 0) (fun _ => 0) (fun k hk ih5 M1 H locs ls hM hT hl => ?_) hM hT (lv_sub hl [0, 1, 2, 3, 4] rfl)
  refine lv_iload X.1 X.2.1 dL_overdue_5 (lv_at hl 0 rfl) ?_
  refine lv_aload_n X.1 X.2.1 dL_overdue_7 rfl (lv_at hl 3 rfl) ?_
  refine lv_iconst X.1 X.2.1 (v := 5) dL_overdue_8 (by decide) ?_
  refine ml_ald X hT hM (k := 2) (j := 5) (by decide) (by decide) dL_overdue_9 ?_
  refine mm_top (w := nI (ct y 22)) (hR.2.2.1.2.2.2.2.2.1) ?_
  refine lv_icmp_ge X.1 X.2.1 (tgt := 69) dL_overdue_10 (by decide) (fun c10 => ?_) (fun c10 => ?_)
  · skip
    have hkn := mm_exit hk (show ct y 22 < 2 ^ 31 by omega) c10
    subst hkn
    refine lv_iload_n X.1 X.2.1 dL_overdue_69 rfl (lv_at hl 1 rfl) ?_
    exact mr_iret X hT hret (⟨_, rfl, rfl, hM⟩) (Nat.le_of_ble_eq_true rfl) (Nat.le_of_ble_eq_true rfl) dL_overdue_70
  · skip
    have hkl := mm_stay hk (show ct y 22 < 2 ^ 31 by omega) c10
    obtain ⟨⟨u1, hu1, eu⟩, ⟨v1, hv1, ev⟩⟩ := hV.en hkl
    obtain ⟨⟨t1, ht1, et⟩, -⟩ := ie k hkl
    obtain ⟨q1, q2, q3⟩ := hR.2.2.2.2.2.1 k hkl
    rw [eu, ev, l_pr] at q1
    rw [et] at q2
    have e14 : (1440 ≤ q_now y - nI t1) ↔ t1 + 1440 ≤ ct y 5 := l_ge (c := 1440) (by decide) (by omega) (by omega)
    have eO : q_over1 y (nI p) k = (decide (nI u1 = nI p) && decide (cg y 21 k = 0) && decide (t1 + 1440 ≤ ct y 5)) := by unfold q_over1; rw [eu, et, decide_eq_decide.mpr e14]
    refine lv_iload_n X.1 X.2.1 dL_overdue_13 rfl (lv_at hl 1 rfl) ?_
    refine mw_join hT 61 (0) (0) (fun r M1 => r = bI (q_over1 y (nI p) k) ∧ LW G o ad x z M1) (fun r M1 H locs hp hT => ?_) (fun J61 => ?_)
    · obtain ⟨rfl, hM⟩ := hp
      refine lv_iadd X.1 X.2.1 dL_overdue_61 ?_
      refine mm_top (w := q_over y (nI p) (k + 1)) (rfl) ?_
      refine lv_istore_n X.1 X.2.1 dL_overdue_62 rfl hl (by decide) rfl (fun ls hl => ?_)
      refine lv_iinc X.1 X.2.1 (k := 1) (v := nI (k + 1)) dL_overdue_63 hl rfl (mm_inc (k)) (by decide) rfl (fun ls hl => ?_)
      refine lv_goto X.1 X.2.1 (tgt := 5) dL_overdue_66 (by decide) ?_
      refine W.widen (k := 0) (n := 0) (show ((0) : Nat) ≤ 0 by omega) (show ((0) : Nat) ≤ 0 by omega) ?_
      exact ih5 (by omega) _ _ _ _ (hM) hT (lv_sub hl [0, 1, 2, 3, 4] rfl)
    · skip
      refine lv_aload_n X.1 X.2.1 dL_overdue_14 rfl (lv_at hl 2 rfl) ?_
      refine lv_iconst X.1 X.2.1 (v := 3) dL_overdue_15 (by decide) ?_
      refine lv_iload X.1 X.2.1 dL_overdue_16 (lv_at hl 0 rfl) ?_
      refine lv_imul X.1 X.2.1 dL_overdue_18 ?_
      refine mm_top (w := nI (3 * k)) (pk_mul 3 k) ?_
      refine ml_ald X hT hM (k := 5) (j := 3 * k) (by decide) (show 3 * k < 60 by omega) dL_overdue_19 ?_
      refine mm_top (w := nI (8 * u1 + v1)) (q1) ?_
      refine lv_bipush X.1 X.2.1 (v := 8) dL_overdue_20 (by decide) ?_
      refine lv_idiv X.1 X.2.1 dL_overdue_22 (by decide) ?_
      refine mm_top (w := nI ((8 * u1 + v1) / 8)) (pk_div (a := 8 * u1 + v1) (d := 8) (by omega) (by omega) (by omega)) ?_
      refine mm_top (w := nI u1) (congrArg nI (show (8 * u1 + v1) / 8 = u1 by omega)) ?_
      refine lv_iload_n X.1 X.2.1 dL_overdue_23 rfl (lv_at hl 4 rfl) ?_
      refine lv_icmp_ne X.1 X.2.1 (tgt := 60) dL_overdue_24 (by decide) (fun c24 => ?_) (fun c24 => ?_)
      · skip
        refine lv_iconst X.1 X.2.1 (v := 0) dL_overdue_60 (by decide) ?_
        refine W.widen (k := 0) (n := 0) (show ((0) : Nat) ≤ 0 by omega) (show ((0) : Nat) ≤ 0 by omega) ?_
        exact J61 _ _ _ _ ⟨by rw [eO]; first | (simp [bI, c24]; done) | (simp [bI, c24, c35]; done) | (simp [bI, c24, c35, e53]; done), hM⟩ hT
      · skip
        refine lv_aload_n X.1 X.2.1 dL_overdue_27 rfl (lv_at hl 2 rfl) ?_
        refine lv_iconst X.1 X.2.1 (v := 3) dL_overdue_28 (by decide) ?_
        refine lv_iload X.1 X.2.1 dL_overdue_29 (lv_at hl 0 rfl) ?_
        refine lv_imul X.1 X.2.1 dL_overdue_31 ?_
        refine mm_top (w := nI (3 * k)) (pk_mul 3 k) ?_
        refine lv_iconst X.1 X.2.1 (v := 2) dL_overdue_32 (by decide) ?_
        refine lv_iadd X.1 X.2.1 dL_overdue_33 ?_
        refine mm_top (w := nI (3 * k + 2)) (nI_add (3 * k) 2) ?_
        refine ml_ald X hT hM (k := 5) (j := 3 * k + 2) (by decide) (show 3 * k + 2 < 60 by omega) dL_overdue_34 ?_
        refine mm_top (w := cg y 21 k) (q3) ?_
        refine lv_if_ne X.1 X.2.1 (tgt := 60) dL_overdue_35 (by decide) (fun c35 => ?_) (fun c35 => ?_)
        · skip
          refine lv_iconst X.1 X.2.1 (v := 0) dL_overdue_60 (by decide) ?_
          refine W.widen (k := 0) (n := 0) (show ((0) : Nat) ≤ 0 by omega) (show ((0) : Nat) ≤ 0 by omega) ?_
          exact J61 _ _ _ _ ⟨by rw [eO]; first | (simp [bI, c24]; done) | (simp [bI, c24, c35]; done) | (simp [bI, c24, c35, e53]; done), hM⟩ hT
        · skip
          refine lv_aload_n X.1 X.2.1 dL_overdue_38 rfl (lv_at hl 3 rfl) ?_
          refine lv_iconst X.1 X.2.1 (v := 2) dL_overdue_39 (by decide) ?_
          refine ml_ald X hT hM (k := 2) (j := 2) (by decide) (by decide) dL_overdue_40 ?_
          refine mm_top (w := nI (ct y 5)) (hR.2.2.1.2.2.1) ?_
          refine lv_aload_n X.1 X.2.1 dL_overdue_41 rfl (lv_at hl 2 rfl) ?_
          refine lv_iconst X.1 X.2.1 (v := 3) dL_overdue_42 (by decide) ?_
          refine lv_iload X.1 X.2.1 dL_overdue_43 (lv_at hl 0 rfl) ?_
          refine lv_imul X.1 X.2.1 dL_overdue_45 ?_
          refine mm_top (w := nI (3 * k)) (pk_mul 3 k) ?_
          refine lv_iconst X.1 X.2.1 (v := 1) dL_overdue_46 (by decide) ?_
          refine lv_iadd X.1 X.2.1 dL_overdue_47 ?_
          refine mm_top (w := nI (3 * k + 1)) (nI_add (3 * k) 1) ?_
          refine ml_ald X hT hM (k := 5) (j := 3 * k + 1) (by decide) (show 3 * k + 1 < 60 by omega) dL_overdue_48 ?_
          refine mm_top (w := nI t1) (q2) ?_
          refine lv_sipush X.1 X.2.1 (v := 1440) dL_overdue_49 (by decide) ?_
          refine lv_iadd X.1 X.2.1 dL_overdue_52 ?_
          refine mm_top (w := nI (t1 + 1440)) (nI_add t1 1440) ?_
          refine lv_icmp_lt X.1 X.2.1 (tgt := 60) dL_overdue_53 (by decide) (fun c53 => ?_) (fun c53 => ?_)
          · skip
            have e53 : ¬ t1 + 1440 ≤ ct y 5 := fun q => absurd c53 (nI_nlt (by omega) (by omega))
            refine lv_iconst X.1 X.2.1 (v := 0) dL_overdue_60 (by decide) ?_
            refine W.widen (k := 0) (n := 0) (show ((0) : Nat) ≤ 0 by omega) (show ((0) : Nat) ≤ 0 by omega) ?_
            exact J61 _ _ _ _ ⟨by rw [eO]; first | (simp [bI, c24]; done) | (simp [bI, c24, c35]; done) | (simp [bI, c24, c35, e53]; done), hM⟩ hT
          · skip
            have e53 : t1 + 1440 ≤ ct y 5 := by have q := Int32.not_lt.mp c53; exact (nI_leI (by omega) (by omega)).mp q
            refine lv_iconst X.1 X.2.1 (v := 1) dL_overdue_56 (by decide) ?_
            refine lv_goto X.1 X.2.1 (tgt := 61) dL_overdue_57 (by decide) ?_
            refine W.widen (k := 0) (n := 0) (show ((0) : Nat) ≤ 0 by omega) (show ((0) : Nat) ≤ 0 by omega) ?_
            exact J61 _ _ _ _ ⟨by rw [eO]; first | (simp [bI, c24]; done) | (simp [bI, c24, c35]; done) | (simp [bI, c24, c35, e53]; done), hM⟩ hT

abbrev rm_L_shut : Room := { frames := 3, cells := 0, slots := 0, locals := 69 }
set_option maxHeartbeats 4000000 in
set_option maxRecDepth 100000 in
theorem k_shut {l : Launch} (hfl : l.stackTraces = false) {G : mw_G} {o : Nat} {ad : Nat → Nat} {x y : s_T} {z : Nat → Nat → Int32} {M : mw_M} {also : Int32} (hM : LW G o ad x z M) (hR : LR y z) (hI : LI y) (hV : q_inv 512 y) (hX : q_inv 511 x) (hE : q_ext (q_closes y also).1 x) : mw_Met l G yL_shut (.code yL_shut cL_shut 8 (some .int)) rm_L_shut [.ref o, .ref (ad 3), .ref (ad 6), .ref (ad 2), .int also] M (mw_pi (fun r M1 => r = (q_closes y also).2 ∧ ∃ z1 : Nat → Nat → Int32, LR (q_closes y also).1 z1 ∧ LW G o ad x z1 M1)) := by
  refine mw_of hfl (by decide) (Nat.le_of_ble_eq_true rfl) ?_
  intro zp ze zs_ zm zb zh zc ls X hin hret hT hl
  have hl : lv_has ls 8 [(0, .ref o), (1, .ref (ad 3)), (2, .ref (ad 6)), (3, .ref (ad 2)), (4, .int also)] := hl
  obtain ⟨i2, i4, i10, i17, i22, i29, ilb, ils, ie, is_⟩ := id hI
  obtain ⟨v2, v4, v5⟩ := hV.le
  refine lv_iconst X.1 X.2.1 (v := 0) dL_shut_0 (by decide) ?_
  refine lv_istore X.1 X.2.1 dL_shut_1 hl (by decide) rfl (fun ls hl => ?_)
  refine lv_iconst X.1 X.2.1 (v := 0) dL_shut_3 (by decide) ?_
  refine lv_istore X.1 X.2.1 dL_shut_4 hl (by decide) rfl (fun ls hl => ?_)
  refine W.widen (k := (fun _ => 0) 0) (n := (fun _ => 0) 0) (show ((0) : Nat) ≤ 0 by omega) (show ((0) : Nat) ≤ 0 by omega) ?_
  refine mw_loopC (nL := 8) (n := ct y 29) (fun k M1 => ∃ z1 : Nat → Nat → Int32, LR (q_close y also k).1 z1 ∧ LW G o ad x z1 M1) (fun k => [(6, .int (nI k)), (5, .int ((q_close y also k).2)), (0, .ref o), (1, .ref (ad 3)), (2, .ref (ad 6)), (3, .ref (ad 2)), (4, .int also)]) (fun _ => 0) (fun _ => 0) (fun k hk ih6 M1 H locs ls hM hT hl => ?_) ⟨z, hR, hM⟩ hT (lv_sub hl [0, 1, 2, 3, 4, 5, 6] rfl)
  obtain ⟨z1, hR1, hM⟩ := hM
  have hal := q_al_close y also k
  have hI1 := hI.close hV also k hk
  have hV1 := q_inv_close hV also k hk
  obtain ⟨yk, ey⟩ : ∃ w, w = (q_close y also k).1 := ⟨_, rfl⟩
  rw [← ey] at hR1 hal hI1 hV1
  have e29 : ct yk 29 = ct y 29 := hal.1 29 (by decide)
  obtain ⟨j2, j4, j10, j17, j22, j29, jlb, jls, je, js⟩ := id hI1
  obtain ⟨w2, w4, w5⟩ := hV1.le
  obtain ⟨sq, hsq, esq⟩ := jls
  refine lv_iload X.1 X.2.1 dL_shut_6 (lv_at hl 0 rfl) ?_
  refine lv_aload_n X.1 X.2.1 dL_shut_8 rfl (lv_at hl 5 rfl) ?_
  refine lv_bipush X.1 X.2.1 (v := 6) dL_shut_9 (by decide) ?_
  refine ml_ald X hT hM (k := 2) (j := 6) (by decide) (by decide) dL_shut_11 ?_
  refine mm_top (w := nI (ct yk 29)) (hR1.2.2.1.2.2.2.2.2.2.1) ?_
  refine lv_icmp_ge X.1 X.2.1 (tgt := 146) dL_shut_12 (by decide) (fun c12 => ?_) (fun c12 => ?_)
  · skip
    have hkn := mm_exit hk (show ct y 29 < 2 ^ 31 by omega) (e29 ▸ c12)
    subst hkn
    refine lv_iload X.1 X.2.1 dL_shut_146 (lv_at hl 1 rfl) ?_
    exact mr_iret X hT hret (⟨_, rfl, rfl, z1, by show LR (q_close y also (ct y 29)).1 z1; rw [← ey]; exact hR1, hM⟩) (Nat.le_of_ble_eq_true rfl) (Nat.le_of_ble_eq_true rfl) dL_shut_148
  · skip
    have hkl := mm_stay hk (show ct y 29 < 2 ^ 31 by omega) (e29 ▸ c12)
    obtain ⟨⟨u, hu, eu⟩, ⟨v, hv, ev⟩⟩ := hV1.se (k := k) (by omega)
    obtain ⟨⟨t1, ht1, et⟩, o25, o27⟩ := js k (by omega)
    obtain ⟨q1, q2, q3, q4, q5⟩ := hR1.2.2.2.2.2.2 k (by omega)
    rw [eu, ev, l_pr] at q1
    rw [et] at q3
    have e15 : (15 ≤ q_now yk - nI t1) ↔ t1 + 15 ≤ ct yk 5 := l_ge (c := 15) (by decide) (show t1 ≤ ct yk 5 by omega) (by omega)
    have eE : q_end1 yk also k = (decide (cg yk 25 k = 1) && (decide (nI k = also) || (decide (t1 + 15 ≤ ct yk 5) || !q_hold yk (nI u) (nI v) (nI (ct yk 5)) (ct yk 10)))) := by unfold q_end1; rw [eu, ev, et, decide_eq_decide.mpr e15, decide_eq_decide.mpr (l_01 o25)]
    refine mw_join hT 73 (0) (0) (fun r M1 => r = bI (q_end1 yk also k) ∧ LW G o ad x z1 M1) (fun r M1 H locs hp hT => ?_) (fun J73 => ?_)
    · obtain ⟨rfl, hM⟩ := hp
      refine lv_istore X.1 X.2.1 dL_shut_73 hl (by decide) rfl (fun ls hl => ?_)
      refine lv_iload X.1 X.2.1 dL_shut_75 (lv_at hl 0 rfl) ?_
      refine lv_if_eq X.1 X.2.1 (tgt := 140) dL_shut_77 (by decide) (fun c77 => ?_) (fun c77 => ?_)
      · skip
        have d77 : q_end1 yk also k = false := bI_0.mp c77
        refine lv_iinc X.1 X.2.1 (k := 1) (v := nI (k + 1)) dL_shut_140 hl rfl (mm_inc (k)) (by decide) rfl (fun ls hl => ?_)
        refine lv_goto X.1 X.2.1 (tgt := 6) dL_shut_143 (by decide) ?_
        refine W.widen (k := 0) (n := 0) (show ((0) : Nat) ≤ 0 by omega) (show ((0) : Nat) ≤ 0 by omega) ?_
        exact ih6 (by omega) _ _ _ _ (⟨_, by rw [q_close_f (ey ▸ d77), ← ey]; exact hR1, hM⟩) hT (by rw [q_close_f (ey ▸ d77)]; exact lv_sub hl [0, 2, 3, 4, 5, 6, 7] rfl)
      · skip
        have d77 : q_end1 yk also k = true := bI_n.mp c77
        refine lv_aload_n X.1 X.2.1 dL_shut_80 rfl (lv_at hl 5 rfl) ?_
        refine lv_iconst X.1 X.2.1 (v := 5) dL_shut_81 (by decide) ?_
        refine lv_iload X.1 X.2.1 dL_shut_82 (lv_at hl 1 rfl) ?_
        refine lv_imul X.1 X.2.1 dL_shut_84 ?_
        refine mm_top (w := nI (5 * k)) (pk_mul 5 k) ?_
        refine lv_iconst X.1 X.2.1 (v := 1) dL_shut_85 (by decide) ?_
        refine lv_iadd X.1 X.2.1 dL_shut_86 ?_
        refine mm_top (w := nI (5 * k + 1)) (nI_add (5 * k) 1) ?_
        refine lv_iconst X.1 X.2.1 (v := 0) dL_shut_87 (by decide) ?_
        refine ml_ast X hT hM (k := 6) (j := 5 * k + 1) (by decide) (show 5 * k + 1 < 60 by omega) dL_shut_88 (fun M1 H locs hM hT => ?_)
        refine lv_aload_n X.1 X.2.1 dL_shut_89 rfl (lv_at hl 5 rfl) ?_
        refine lv_iconst X.1 X.2.1 (v := 5) dL_shut_90 (by decide) ?_
        refine lv_iload X.1 X.2.1 dL_shut_91 (lv_at hl 1 rfl) ?_
        refine lv_imul X.1 X.2.1 dL_shut_93 ?_
        refine mm_top (w := nI (5 * k)) (pk_mul 5 k) ?_
        refine lv_iconst X.1 X.2.1 (v := 3) dL_shut_94 (by decide) ?_
        refine lv_iadd X.1 X.2.1 dL_shut_95 ?_
        refine mm_top (w := nI (5 * k + 3)) (nI_add (5 * k) 3) ?_
        refine lv_iconst X.1 X.2.1 (v := 0) dL_shut_96 (by decide) ?_
        refine ml_ast X hT hM (k := 6) (j := 5 * k + 3) (by decide) (show 5 * k + 3 < 60 by omega) dL_shut_97 (fun M1 H locs hM hT => ?_)
        refine lv_aload_n X.1 X.2.1 dL_shut_98 rfl (lv_at hl 3 rfl) ?_
        refine lv_aload_n X.1 X.2.1 dL_shut_99 rfl (lv_at hl 6 rfl) ?_
        refine lv_bipush X.1 X.2.1 (v := 6) dL_shut_100 (by decide) ?_
        refine lv_aload_n X.1 X.2.1 dL_shut_102 rfl (lv_at hl 5 rfl) ?_
        refine lv_iconst X.1 X.2.1 (v := 5) dL_shut_103 (by decide) ?_
        refine lv_iload X.1 X.2.1 dL_shut_104 (lv_at hl 1 rfl) ?_
        refine lv_imul X.1 X.2.1 dL_shut_106 ?_
        refine mm_top (w := nI (5 * k)) (pk_mul 5 k) ?_
        refine ml_ald X hT hM (k := 6) (j := 5 * k) (by decide) (show 5 * k < 60 by omega) dL_shut_107 ?_
        refine mm_top (w := nI (8 * u + v)) (by rw [zs_get, if_pos rfl, if_neg (by omega), zs_get, if_pos rfl, if_neg (by omega)]; exact q1) ?_
        refine lv_bipush X.1 X.2.1 (v := 8) dL_shut_108 (by decide) ?_
        refine lv_idiv X.1 X.2.1 dL_shut_110 (by decide) ?_
        refine mm_top (w := nI ((8 * u + v) / 8)) (pk_div (a := 8 * u + v) (d := 8) (by omega) (by omega) (by omega)) ?_
        refine mm_top (w := nI u) (congrArg nI (show (8 * u + v) / 8 = u by omega)) ?_
        refine lv_aload_n X.1 X.2.1 dL_shut_111 rfl (lv_at hl 5 rfl) ?_
        refine lv_iconst X.1 X.2.1 (v := 5) dL_shut_112 (by decide) ?_
        refine lv_iload X.1 X.2.1 dL_shut_113 (lv_at hl 1 rfl) ?_
        refine lv_imul X.1 X.2.1 dL_shut_115 ?_
        refine mm_top (w := nI (5 * k)) (pk_mul 5 k) ?_
        refine ml_ald X hT hM (k := 6) (j := 5 * k) (by decide) (show 5 * k < 60 by omega) dL_shut_116 ?_
        refine mm_top (w := nI (8 * u + v)) (by rw [zs_get, if_pos rfl, if_neg (by omega), zs_get, if_pos rfl, if_neg (by omega)]; exact q1) ?_
        refine lv_bipush X.1 X.2.1 (v := 8) dL_shut_117 (by decide) ?_
        refine lv_irem X.1 X.2.1 dL_shut_119 (by decide) ?_
        refine mm_top (w := nI ((8 * u + v) % 8)) (pk_rem (a := 8 * u + v) (d := 8) (by omega) (by omega) (by omega)) ?_
        refine mm_top (w := nI v) (congrArg nI (show (8 * u + v) % 8 = v by omega)) ?_
        refine lv_aload_n X.1 X.2.1 dL_shut_120 rfl (lv_at hl 6 rfl) ?_
        refine lv_iconst X.1 X.2.1 (v := 2) dL_shut_121 (by decide) ?_
        refine ml_ald X hT hM (k := 2) (j := 2) (by decide) (by decide) dL_shut_122 ?_
        refine mm_top (w := nI (ct yk 5)) (by rw [zs_get, if_neg (by decide), zs_get, if_neg (by decide)]; exact hR1.2.2.1.2.2.1) ?_
        have hx1 : q_ext (q_shut yk k) x := by have h := q_ext_closes y also (k := k + 1) (by omega); rw [q_close_t (ey ▸ d77), ← ey] at h; exact h.tr hE
        have hx2 : q_ext (q_write (cs (cs yk 25 k 0) 27 k (-1)) 6 (cg yk 23 k) (cg yk 24 k)) x := hx1
        obtain ⟨g1, g2, g3⟩ := q_ext_at hx2
        rw [q_seal_shut, eu, ev] at g3
        have eS : q_seal yk 6 (nI u) (nI v) = nI ((31 * sq + 6 + 10 * u + 200 * v + 2000 * ct yk 5) % 1000003) := q_seal_nI (k := 6) esq hsq (by decide) (by omega) (by omega) (by omega)
        rw [eS] at g3
        have hLR := hR1.shut k
        rw [eu, ev, eS] at hLR
        refine mr_g X hT (fun hT' => mr_runS X hT' cb_RL_38 kw418 kw419 (As := [.ref o, .ref (ad 2), .int 6, .int (nI u), .int (nI v), .int (nI (ct yk 5))]) (k_isStep hfl hM hX (s := sq) (n := ct yk 32) (kd := 6) (p := u) (m := v) (tt := ct yk 5) (by rw [zs_get, if_neg (by decide), zs_get, if_neg (by decide)]; exact (hR1.2.2.1.2.2.2.2.2.2.2.2).trans esq) hsq (by rw [zs_get, if_neg (by decide), zs_get, if_neg (by decide)]; exact hR1.2.2.1.2.2.2.2.2.2.2.1) (by decide) (by omega) (by omega) (by omega) g1 g2 g3) rfl rfl hl.1 ⟨Nat.le_of_ble_eq_true rfl, Nat.le_of_ble_eq_true rfl⟩ (Nat.le_of_ble_eq_true rfl) dL_shut_123 ⟨Nat.le_of_ble_eq_true rfl, Nat.le_of_ble_eq_true rfl⟩) (fun v M1 H locs hp hT => ?_)
        obtain ⟨r, rfl, rfl, hM⟩ := hp
        refine W.eq (g2 := F0 zm 126 ls (.int 1 :: _)) rfl ?_
        refine lv_if_eq X.1 X.2.1 (tgt := 136) dL_shut_126 (by decide) (fun c126 => absurd c126 (by decide)) (fun _ => ?_)
        refine lv_iload X.1 X.2.1 dL_shut_129 (lv_at hl 2 rfl) ?_
        refine lv_iconst X.1 X.2.1 (v := 1) dL_shut_131 (by decide) ?_
        refine lv_iadd X.1 X.2.1 dL_shut_132 ?_
        refine lv_goto X.1 X.2.1 (tgt := 138) dL_shut_133 (by decide) ?_
        refine lv_istore X.1 X.2.1 dL_shut_138 hl (by decide) rfl (fun ls hl => ?_)
        refine lv_iinc X.1 X.2.1 (k := 2) (v := nI (k + 1)) dL_shut_140 hl rfl (mm_inc (k)) (by decide) rfl (fun ls hl => ?_)
        refine lv_goto X.1 X.2.1 (tgt := 6) dL_shut_143 (by decide) ?_
        refine W.widen (k := 0) (n := 0) (show ((0 + 0) : Nat) ≤ 0 by omega) (show ((0 + 0) : Nat) ≤ 0 by omega) ?_
        exact ih6 (by omega) _ _ _ _ (⟨_, by rw [q_close_t (ey ▸ d77)]; rw [← ey]; exact hLR, hM⟩) hT (by rw [q_close_t (ey ▸ d77)]; exact lv_sub hl [0, 1, 3, 4, 5, 6, 7] rfl)
    · skip
      refine lv_aload_n X.1 X.2.1 dL_shut_15 rfl (lv_at hl 4 rfl) ?_
      refine lv_iconst X.1 X.2.1 (v := 5) dL_shut_16 (by decide) ?_
      refine lv_iload X.1 X.2.1 dL_shut_17 (lv_at hl 0 rfl) ?_
      refine lv_imul X.1 X.2.1 dL_shut_19 ?_
      refine mm_top (w := nI (5 * k)) (pk_mul 5 k) ?_
      refine lv_iconst X.1 X.2.1 (v := 1) dL_shut_20 (by decide) ?_
      refine lv_iadd X.1 X.2.1 dL_shut_21 ?_
      refine mm_top (w := nI (5 * k + 1)) (nI_add (5 * k) 1) ?_
      refine ml_ald X hT hM (k := 6) (j := 5 * k + 1) (by decide) (show 5 * k + 1 < 60 by omega) dL_shut_22 ?_
      refine mm_top (w := cg yk 25 k) (q2) ?_
      refine lv_iconst X.1 X.2.1 (v := 1) dL_shut_23 (by decide) ?_
      refine lv_icmp_ne X.1 X.2.1 (tgt := 72) dL_shut_24 (by decide) (fun c24 => ?_) (fun c24 => ?_)
      · skip
        refine lv_iconst X.1 X.2.1 (v := 0) dL_shut_72 (by decide) ?_
        refine W.widen (k := 0) (n := 0) (show ((0) : Nat) ≤ 0 by omega) (show ((0) : Nat) ≤ 0 by omega) ?_
        exact J73 _ _ _ _ ⟨by rw [eE]; first | (simp [bI, c24]; done) | (simp [bI, c24, c31]; done) | (simp [bI, c24, e48]; done) | (simp [bI, c24, c31, e48, d65]; done), hM⟩ hT
      · skip
        refine lv_iload X.1 X.2.1 dL_shut_27 (lv_at hl 0 rfl) ?_
        refine lv_iload X.1 X.2.1 dL_shut_29 (lv_at hl 6 rfl) ?_
        refine lv_icmp_eq X.1 X.2.1 (tgt := 68) dL_shut_31 (by decide) (fun c31 => ?_) (fun c31 => ?_)
        · skip
          refine lv_iconst X.1 X.2.1 (v := 1) dL_shut_68 (by decide) ?_
          refine lv_goto X.1 X.2.1 (tgt := 73) dL_shut_69 (by decide) ?_
          refine W.widen (k := 0) (n := 0) (show ((0) : Nat) ≤ 0 by omega) (show ((0) : Nat) ≤ 0 by omega) ?_
          exact J73 _ _ _ _ ⟨by rw [eE]; first | (simp [bI, c24]; done) | (simp [bI, c24, c31]; done) | (simp [bI, c24, e48]; done) | (simp [bI, c24, c31, e48, d65]; done), hM⟩ hT
        · skip
          refine lv_aload_n X.1 X.2.1 dL_shut_34 rfl (lv_at hl 5 rfl) ?_
          refine lv_iconst X.1 X.2.1 (v := 2) dL_shut_35 (by decide) ?_
          refine ml_ald X hT hM (k := 2) (j := 2) (by decide) (by decide) dL_shut_36 ?_
          refine mm_top (w := nI (ct yk 5)) (hR1.2.2.1.2.2.1) ?_
          refine lv_aload_n X.1 X.2.1 dL_shut_37 rfl (lv_at hl 4 rfl) ?_
          refine lv_iconst X.1 X.2.1 (v := 5) dL_shut_38 (by decide) ?_
          refine lv_iload X.1 X.2.1 dL_shut_39 (lv_at hl 0 rfl) ?_
          refine lv_imul X.1 X.2.1 dL_shut_41 ?_
          refine mm_top (w := nI (5 * k)) (pk_mul 5 k) ?_
          refine lv_iconst X.1 X.2.1 (v := 2) dL_shut_42 (by decide) ?_
          refine lv_iadd X.1 X.2.1 dL_shut_43 ?_
          refine mm_top (w := nI (5 * k + 2)) (nI_add (5 * k) 2) ?_
          refine ml_ald X hT hM (k := 6) (j := 5 * k + 2) (by decide) (show 5 * k + 2 < 60 by omega) dL_shut_44 ?_
          refine mm_top (w := nI t1) (q3) ?_
          refine lv_bipush X.1 X.2.1 (v := 15) dL_shut_45 (by decide) ?_
          refine lv_iadd X.1 X.2.1 dL_shut_47 ?_
          refine mm_top (w := nI (t1 + 15)) (nI_add t1 15) ?_
          refine lv_icmp_ge X.1 X.2.1 (tgt := 68) dL_shut_48 (by decide) (fun c48 => ?_) (fun c48 => ?_)
          · skip
            have e48 : t1 + 15 ≤ ct yk 5 := (nI_leI (by omega) (by omega)).mp c48
            refine lv_iconst X.1 X.2.1 (v := 1) dL_shut_68 (by decide) ?_
            refine lv_goto X.1 X.2.1 (tgt := 73) dL_shut_69 (by decide) ?_
            refine W.widen (k := 0) (n := 0) (show ((0) : Nat) ≤ 0 by omega) (show ((0) : Nat) ≤ 0 by omega) ?_
            exact J73 _ _ _ _ ⟨by rw [eE]; first | (simp [bI, c24]; done) | (simp [bI, c24, c31]; done) | (simp [bI, c24, e48]; done) | (simp [bI, c24, c31, e48, d65]; done), hM⟩ hT
          · skip
            have e48 : ¬ t1 + 15 ≤ ct yk 5 := fun q => c48 ((nI_leI (by omega) (by omega)).mpr q)
            refine lv_aload_n X.1 X.2.1 dL_shut_51 rfl (lv_at hl 3 rfl) ?_
            refine lv_aload_n X.1 X.2.1 dL_shut_52 rfl (lv_at hl 5 rfl) ?_
            refine lv_aload_n X.1 X.2.1 dL_shut_53 rfl (lv_at hl 4 rfl) ?_
            refine lv_iconst X.1 X.2.1 (v := 5) dL_shut_54 (by decide) ?_
            refine lv_iload X.1 X.2.1 dL_shut_55 (lv_at hl 0 rfl) ?_
            refine lv_imul X.1 X.2.1 dL_shut_57 ?_
            refine mm_top (w := nI (5 * k)) (pk_mul 5 k) ?_
            refine ml_ald X hT hM (k := 6) (j := 5 * k) (by decide) (show 5 * k < 60 by omega) dL_shut_58 ?_
            refine mm_top (w := nI (8 * u + v)) (q1) ?_
            refine lv_aload_n X.1 X.2.1 dL_shut_59 rfl (lv_at hl 5 rfl) ?_
            refine lv_iconst X.1 X.2.1 (v := 2) dL_shut_60 (by decide) ?_
            refine ml_ald X hT hM (k := 2) (j := 2) (by decide) (by decide) dL_shut_61 ?_
            refine mm_top (w := nI (ct yk 5)) (hR1.2.2.1.2.2.1) ?_
            refine mr_g X hT (fun hT' => mr_runS X hT' cb_RL_32 kw408 kw409 (As := [.ref (ad 3), .ref (ad 2), .int (nI (8 * u + v)), .int (nI (ct yk 5))]) (k_holdsAt hfl hM hR1 hI1.2.2.1 hV1 (u := u) (v := v) (t := nI (ct yk 5)) (by omega) (by omega)) rfl rfl hl.1 ⟨Nat.le_of_ble_eq_true rfl, Nat.le_of_ble_eq_true rfl⟩ (Nat.le_of_ble_eq_true rfl) dL_shut_62 ⟨Nat.le_of_ble_eq_true rfl, Nat.le_of_ble_eq_true rfl⟩) (fun v M1 H locs hp hT => ?_)
            obtain ⟨r, rfl, rfl, hM⟩ := hp
            refine W.eq (g2 := F0 zm 65 ls (.int (bI (q_hold yk (nI u) (nI v) (nI (ct yk 5)) (ct yk 10))) :: _)) rfl ?_
            refine lv_if_ne X.1 X.2.1 (tgt := 72) dL_shut_65 (by decide) (fun c65 => ?_) (fun c65 => ?_)
            · skip
              have d65 : (q_hold yk (nI u) (nI v) (nI (ct yk 5)) (ct yk 10)) = true := bI_n.mp c65
              refine lv_iconst X.1 X.2.1 (v := 0) dL_shut_72 (by decide) ?_
              refine W.widen (k := 0) (n := 0) (show ((0 + 0) : Nat) ≤ 0 by omega) (show ((0 + 0) : Nat) ≤ 0 by omega) ?_
              exact J73 _ _ _ _ ⟨by rw [eE]; first | (simp [bI, c24]; done) | (simp [bI, c24, c31]; done) | (simp [bI, c24, e48]; done) | (simp [bI, c24, c31, e48, d65]; done), hM⟩ hT
            · skip
              have d65 : (q_hold yk (nI u) (nI v) (nI (ct yk 5)) (ct yk 10)) = false := bI_0.mp c65
              refine lv_iconst X.1 X.2.1 (v := 1) dL_shut_68 (by decide) ?_
              refine lv_goto X.1 X.2.1 (tgt := 73) dL_shut_69 (by decide) ?_
              refine W.widen (k := 0) (n := 0) (show ((0 + 0) : Nat) ≤ 0 by omega) (show ((0 + 0) : Nat) ≤ 0 by omega) ?_
              exact J73 _ _ _ _ ⟨by rw [eE]; first | (simp [bI, c24]; done) | (simp [bI, c24, c31]; done) | (simp [bI, c24, e48]; done) | (simp [bI, c24, c31, e48, d65]; done), hM⟩ hT
