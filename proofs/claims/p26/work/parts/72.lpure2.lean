set_option maxRecDepth 100000 in
theorem kw420 : Jvm.Cond.constantLong "AccessGateLaw" (9 : Nat) (31 : Int64) ∈ lw_tbl := List.mem_of_getElem? (i := 447) rfl
set_option maxRecDepth 100000 in
theorem kw421 : Jvm.Cond.constantLong "AccessGateLaw" (11 : Nat) (10 : Int64) ∈ lw_tbl := List.mem_of_getElem? (i := 448) rfl
set_option maxRecDepth 100000 in
theorem kw422 : Jvm.Cond.constantLong "AccessGateLaw" (13 : Nat) (200 : Int64) ∈ lw_tbl := List.mem_of_getElem? (i := 449) rfl
set_option maxRecDepth 100000 in
theorem kw423 : Jvm.Cond.constantLong "AccessGateLaw" (15 : Nat) (2000 : Int64) ∈ lw_tbl := List.mem_of_getElem? (i := 450) rfl
set_option maxRecDepth 100000 in
theorem kw424 : Jvm.Cond.constantLong "AccessGateLaw" (17 : Nat) (1000003 : Int64) ∈ lw_tbl := List.mem_of_getElem? (i := 451) rfl
section LX
variable {p : Program} {l : Launch} {e : Env} {R : Room} {s : State} {m : MethodId} {args : Array Value} {below : List Frame} {meth : Method} {c : Code} {H : Heap} {locs : List Loc} {cells slots : Nat} {Q : State → Prop} {pc : Nat} {ls : Array Slot} {rest : List Value}
theorem mm_topL {v w : Int64} (h : v = w) (kk : W p l e R s m args below meth c H locs cells slots Q (F0 m pc ls (.long w :: rest))) : W p l e R s m args below meth c H locs cells slots Q (F0 m pc ls (.long v :: rest)) := h ▸ kk
theorem mw_T_eq {G : mw_G} {A : Nat → Prop} {M M' : mw_M} (e : M = M') (h : mw_T G A s M H locs) : mw_T G A s M' H locs := e ▸ h
end LX
section LRt
variable {y : s_T} {z : Nat → Nat → Int32}
theorem q_inv.aq {N : Nat} (h : q_inv N y) {k : Nat} (hk : k < ct y 17) : (∃ u, u < ct y 2 ∧ cg y 11 k = nI u) ∧ (∃ v, v < ct y 4 ∧ cg y 12 k = nI v) ∧ (∃ t, t < ct y 5 + 1 ∧ cg y 14 k = nI t) ∧ (cg y 16 k = -1 ∨ ∃ u, u < ct y 2 ∧ cg y 16 k = nI u) := h.2.2.2.1 k hk
theorem q_inv.en {N : Nat} (h : q_inv N y) {k : Nat} (hk : k < ct y 22) : (∃ u, u < ct y 2 ∧ cg y 18 k = nI u) ∧ ∃ v, v < ct y 4 ∧ cg y 19 k = nI v := h.2.2.2.2.1 k hk
theorem q_inv.se {N : Nat} (h : q_inv N y) {k : Nat} (hk : k < ct y 29) : (∃ u, u < ct y 2 ∧ cg y 23 k = nI u) ∧ ∃ v, v < ct y 4 ∧ cg y 24 k = nI v := h.2.2.2.2.2.1 k hk
theorem l_hold1e {N k u v : Nat} (hR : LR (cf y 9 (q_endf y (nI u) (nI v) k)) z) (hV : q_inv N y) (hu : u < 12) (hv : v < 8) (hk : k < ct y 10) : q_hold1 y (nI u) (nI v) (q_now y) k = (decide (z 3 (3 * k) = nI (8 * u + v)) && decide (z 3 (3 * k + 1) ≤ q_now y) && decide (q_now y < z 3 (3 * k + 2))) := by
  have h := l_hold1 (t := q_now y) hR (q_inv_cf hV (q_endf y (nI u) (nI v) k) (by decide : 9 ∉ [1, 3, 6, 7, 11, 12, 14, 16, 18, 19, 21, 23, 24, 28]) (by decide)) hu hv hk
  rw [← h]
  unfold q_hold1
  rw [q_endf_k]
  rfl
theorem l_deny1e {N k u v : Nat} (hR : LR (cf y 15 (q_denyf y (nI u) (nI v) k)) z) (hV : q_inv N y) (hu : u < 12) (hv : v < 8) (hk : k < ct y 17) : q_deny1 y (nI u) (nI v) k = (decide (z 4 (5 * k) = nI (8 * u + v)) && decide (z 4 (5 * k + 3) = 0)) := by
  obtain ⟨⟨a, ha, ea⟩, ⟨b, hb, eb⟩, -, -⟩ := hV.aq hk
  obtain ⟨l2, l4, -⟩ := hV.le
  obtain ⟨r1, -, -, r4, -⟩ := hR.2.2.2.2.1 k hk
  have r1 : z 4 (5 * k) = 8 * cg y 11 k + cg y 12 k := r1
  rw [q_denyf_k] at r4
  unfold q_deny1
  rw [r1, r4, ea, eb, ← Bool.decide_and, decide_eq_decide.mpr (l_pr_eq (by omega) (by omega) hu hv).symm]
theorem l_01 {v : Int32} (h : v = 0 ∨ v = 1) : (v ≠ 0) ↔ v = 1 := by
  rcases h with h | h <;> subst h <;> decide
/-- later by c minutes -/
theorem l_ge {c t T : Nat} (hc : c < 2 ^ 29) (ht : t ≤ T) (hT : T ≤ 100000) : (nI c ≤ nI T - nI t) ↔ t + c ≤ T := by
  rw [pk_sub ht, nI_leI (by omega) (by omega)]
  omega
theorem LR.grant {u v : Nat} {t : Int32} (h : LR y z) : LR (q_grant y (nI u) (nI v) t) (zs (zs (zs (zs z 3 (3 * ct y 10) (nI (8 * u + v))) 3 (3 * ct y 10 + 1) (nI (ct y 5))) 3 (3 * ct y 10 + 2) (nI (ct y 5) + t)) 2 3 (nI (ct y 10 + 1))) := by
  obtain ⟨h0, h1, ⟨a0, a1, a2, a3, a4, a5, a6, a7, a8⟩, h3, h4, h5, h6⟩ := h
  refine ⟨h0, h1, ⟨a0, a1, a2, rfl, a4, a5, a6, a7, a8⟩, fun k hk => ?_, h4, h5, h6⟩
  have hk : k < ct y 10 + 1 := hk
  unfold q_grant
  by_cases hn : k = ct y 10
  · subst hn
    refine ⟨?_, ?_, ?_⟩
    · rw [zs_get, if_neg (by decide), zs_get, if_pos rfl, if_neg (by omega), zs_get, if_pos rfl, if_neg (by omega), zs_get, if_pos rfl, if_pos rfl]
      simp only [cg_ss, cg_cs, if_true, if_false, show ¬ (6 : Nat) = 9 by decide, show ¬ (6 : Nat) = 8 by decide, show ¬ (6 : Nat) = 7 by decide, show ¬ (7 : Nat) = 9 by decide, show ¬ (7 : Nat) = 8 by decide]
      exact (l_pr u v).symm
    · rw [zs_get, if_neg (by decide), zs_get, if_pos rfl, if_neg (by omega), zs_get, if_pos rfl, if_pos rfl]
      simp only [cg_ss, cg_cs, if_true, if_false, show ¬ (8 : Nat) = 9 by decide]
    · rw [zs_get, if_neg (by decide), zs_get, if_pos rfl, if_pos rfl]
      simp only [cg_ss, cg_cs, if_true]
  · obtain ⟨q1, q2, q3⟩ := h3 k (by omega)
    refine ⟨?_, ?_, ?_⟩
    · rw [zs_get, if_neg (by decide), zs_get, if_pos rfl, if_neg (by omega), zs_get, if_pos rfl, if_neg (by omega), zs_get, if_pos rfl, if_neg (by omega), q1]
      simp [cg_ss, cg_cs, hn]
    · rw [zs_get, if_neg (by decide), zs_get, if_pos rfl, if_neg (by omega), zs_get, if_pos rfl, if_neg (by omega), zs_get, if_pos rfl, if_neg (by omega), q2]
      simp [cg_ss, cg_cs, hn]
    · rw [zs_get, if_neg (by decide), zs_get, if_pos rfl, if_neg (by omega), zs_get, if_pos rfl, if_neg (by omega), zs_get, if_pos rfl, if_neg (by omega), q3]
      simp [cg_ss, cg_cs, hn]
theorem q_seal_shut (k : Nat) (kd p m : Int32) : q_seal (cs (cs y 25 k 0) 27 k (-1)) kd p m = q_seal y kd p m := by
  rw [q_seal_cs _ _ _ _ _ _ _ (by decide), q_seal_cs _ _ _ _ _ _ _ (by decide)]
theorem LR.shut (h : LR y z) (k : Nat) : LR (q_shut y k) (zs (zs (zs (zs z 6 (5 * k + 1) 0) 6 (5 * k + 3) 0) 2 8 (q_seal y 6 (cg y 23 k) (cg y 24 k))) 2 7 (nI (ct y 32 + 1))) := by
  have h1 := ((h.s25 k 0).s27 k (-1)).write 6 (cg y 23 k) (cg y 24 k)
  rw [q_seal_shut] at h1
  exact h1
/-- bounds stay where closing works -/
theorem LI.al {x : s_T} (h : LI x) (ha : q_al x y) (hs : q_ref (q_last y) 1000003) (hn : ∀ k, k < ct x 29 → (cg y 25 k = cg x 25 k ∧ cg y 27 k = cg x 27 k) ∨ (cg y 25 k = 0 ∧ cg y 27 k = -1)) : LI y := by
  obtain ⟨i2, i4, i10, i17, i22, i29, ilb, ils, ie, is_⟩ := h
  obtain ⟨a1, a2⟩ := ha
  have e2 := a1 2 (by decide)
  have e4 := a1 4 (by decide)
  have e5 := a1 5 (by decide)
  have e10 := a1 10 (by decide)
  have e17 := a1 17 (by decide)
  have e22 := a1 22 (by decide)
  have e29 := a1 29 (by decide)
  have g : ∀ k, k ≠ 25 → k ≠ 27 → k ≠ 30 → k ≠ 31 → cg y k = cg x k := fun k a b c d => funext fun i => a2 k a b c d i
  refine ⟨by omega, by omega, by omega, by omega, by omega, by omega, ?_, hs, ?_, ?_⟩
  · rw [g 3 (by decide) (by decide) (by decide) (by decide)]; exact ilb
  · rw [e22, e5, g 20 (by decide) (by decide) (by decide) (by decide), g 21 (by decide) (by decide) (by decide) (by decide)]; exact ie
  · rw [e29, e5, g 26 (by decide) (by decide) (by decide) (by decide)]
    intro k hk
    obtain ⟨h1, h2, h3⟩ := is_ k hk
    rcases hn k hk with ⟨q1, q2⟩ | ⟨q1, q2⟩
    · rw [q1, q2]; exact ⟨h1, h2, h3⟩
    · rw [q1, q2]; exact ⟨h1, Or.inl rfl, Or.inl rfl⟩
theorem q_seal_ref {N s : Nat} {k : Nat} {pv mv : Int32} (hs : q_last y = nI s) (h1 : s < 1000003) (h2 : k ≤ 8) (hp : q_ref pv 12) (hm : q_ref mv 8) (hV : q_inv N y) : q_ref (q_seal y (nI k) pv mv) 1000003 := by
  obtain ⟨p, hp, rfl⟩ := hp
  obtain ⟨m, hm, rfl⟩ := hm
  rw [q_seal_nI hs h1 h2 hp hm hV.le.2.2]
  exact ⟨_, Nat.mod_lt _ (by decide), rfl⟩
theorem LI.shut {N k : Nat} (h : LI y) (hV : q_inv N y) (hk : k < ct y 29) : LI (q_shut y k) := by
  refine h.al (q_al_shut y k) ?_ (fun j hj => ?_)
  · obtain ⟨s, hs, es⟩ := h.2.2.2.2.2.2.2.1
    obtain ⟨h1, h2⟩ := hV.se hk
    obtain ⟨l2, l4, -⟩ := hV.le
    have e : q_last (q_shut y k) = q_seal y 6 (cg y 23 k) (cg y 24 k) := (q_last_write _ _ _ _).trans (q_seal_shut k _ _ _)
    rw [e]
    obtain ⟨u, hu, eu⟩ := h1
    obtain ⟨v, hv, ev⟩ := h2
    exact q_seal_ref (k := 6) es hs (by decide) ⟨u, by omega, eu⟩ ⟨v, by omega, ev⟩ hV
  · by_cases hjk : j = k
    · subst hjk
      refine Or.inr ⟨by rw [q_shut_25, if_pos rfl], ?_⟩
      unfold q_shut q_write
      rw [cg_ss, cg_cs, if_neg (by decide), cg_cs, if_neg (by decide), cg_cs, if_pos rfl, if_pos rfl]
    · refine Or.inl ⟨by rw [q_shut_25, if_neg hjk], ?_⟩
      unfold q_shut q_write
      rw [cg_ss, cg_cs, if_neg (by decide), cg_cs, if_neg (by decide), cg_cs, if_pos rfl, if_neg hjk, cg_cs, if_neg (by decide)]
theorem LI.close {N : Nat} (h : LI y) (hV : q_inv N y) (a : Int32) : ∀ k, k ≤ ct y 29 → LI (q_close y a k).1
  | 0, _ => h
  | k + 1, hk => by
    have ih := LI.close h hV a k (by omega)
    by_cases hq : q_end1 (q_close y a k).1 a k = true
    · rw [q_close_t hq]
      refine ih.shut (q_inv_close hV a k (by omega)) ?_
      rw [(q_al_close y a k).1 29 (by decide)]
      omega
    · rw [q_close_f (Bool.eq_false_iff.mpr hq)]
      exact ih
end LRt
/-! steps that there are: told without a throw -/
abbrev rm_q0 : Room := { frames := 0, cells := 0, slots := 0, locals := 0 }
abbrev rm_q1 : Room := { frames := 1, cells := 0, slots := 0, locals := 21 }
set_option maxHeartbeats 4000000 in
theorem c_reqOK {l : Launch} (hfl : l.stackTraces = false) {G : mw_G} {b : c_B} {x : s_T} {w : c_W} {M : mw_M} {j : Nat} (hA : CA G b x w M) (hi : q_inv 511 x) (hj : j < ct x 32) : mw_Met l G yX7_requireStep (.code yX7_requireStep cX7_requireStep 2 none) rm_q0 [.ref (b 0 0), .int (nI j)] M (mw_pv (fun M1 => M = M1)) := by
  refine mw_of hfl (by decide) (Nat.le_of_ble_eq_true rfl) ?_
  intro zp ze zs_ zm zb zh zc ls X hin hret hT hl
  have hl : lv_has ls 2 [(0, .ref (b 0 0)), (1, .int (nI j))] := hl
  have h32 := hi.1.2.2.2.2.2.2.2
  refine lv_iload_n X.1 X.2.1 dX7_requireStep_0 rfl (lv_at hl 1 rfl) ?_
  refine lv_if_lt X.1 X.2.1 (tgt := 15) dX7_requireStep_1 (by decide) (fun c1 => absurd c1 (nI_pos (by omega))) (fun c1 => ?_)
  refine lv_iload_n X.1 X.2.1 dX7_requireStep_4 rfl (lv_at hl 1 rfl) ?_
  refine lv_aload_n X.1 X.2.1 dX7_requireStep_5 rfl (lv_at hl 0 rfl) ?_
  refine mr_get X hT fl_RX7_34 (hA.gate) rfl dX7_requireStep_6 ?_
  refine mr_get X hT fl_RX7_242 (hA.rec) rfl dX7_requireStep_9 ?_
  refine lv_icmp_lt X.1 X.2.1 (tgt := 26) dX7_requireStep_12 (by decide) (fun c12 => ?_) (fun c12 => absurd (nI_lt hj (by omega)) c12)
  exact mr_vret X hT hret (⟨rfl, rfl⟩) (Nat.le_of_ble_eq_true rfl) (Nat.le_of_ble_eq_true rfl) dX7_requireStep_26
set_option maxHeartbeats 4000000 in
theorem c_kindOK {l : Launch} (hfl : l.stackTraces = false) {G : mw_G} {b : c_B} {x : s_T} {w : c_W} {M : mw_M} {j : Nat} (hA : CA G b x w M) (hi : q_inv 511 x) (hj : j < ct x 32) : mw_Met l G yX7_kind (.code yX7_kind cX7_kind 2 (some .int)) rm_q1 [.ref (b 0 0), .int (nI j)] M (mw_pi (fun r M1 => r = cg x 30 j ∧ M = M1)) := by
  refine mw_of hfl (by decide) (Nat.le_of_ble_eq_true rfl) ?_
  intro zp ze zs_ zm zb zh zc ls X hin hret hT hl
  have hl : lv_has ls 2 [(0, .ref (b 0 0)), (1, .int (nI j))] := hl
  have h32 := hi.1.2.2.2.2.2.2.2
  refine lv_aload_n X.1 X.2.1 dX7_kind_0 rfl (lv_at hl 0 rfl) ?_
  refine lv_iload_n X.1 X.2.1 dX7_kind_1 rfl (lv_at hl 1 rfl) ?_
  refine mr_g X hT (fun hT' => mr_runV X hT' cb_RX7_245 kw435 kp15 kw436 (c_reqOK hfl hA hi hj) (mr_cell X hT hA.gate rfl) rfl rfl hl.1 ⟨Nat.le_of_ble_eq_true rfl, Nat.le_of_ble_eq_true rfl⟩ (Nat.le_of_ble_eq_true rfl) dX7_kind_2 ⟨Nat.le_of_ble_eq_true rfl, Nat.le_of_ble_eq_true rfl⟩) (fun v M1 H locs hp hT => ?_)
  obtain ⟨rfl, rfl⟩ := hp
  refine W.eq (g2 := F0 zm 5 ls _) rfl ?_
  refine lv_aload_n X.1 X.2.1 dX7_kind_5 rfl (lv_at hl 0 rfl) ?_
  refine mr_get X hT fl_RX7_34 (hA.gate) rfl dX7_kind_6 ?_
  refine mr_get X hT fl_RX7_248 (hA.rec) rfl dX7_kind_9 ?_
  refine lv_iload_n X.1 X.2.1 dX7_kind_12 rfl (lv_at hl 1 rfl) ?_
  refine mr_iald X hT hA.kin (vp_in_nI (show j < 1024 by omega) (by decide)) dX7_kind_13 ?_
  refine mm_top (w := cg x 30 j) (by rw [nI_clamp (by omega)]) ?_
  exact mr_iret X hT hret (⟨_, rfl, rfl, rfl⟩) (Nat.le_of_ble_eq_true rfl) (Nat.le_of_ble_eq_true rfl) dX7_kind_14
set_option maxHeartbeats 4000000 in
theorem c_sealOK {l : Launch} (hfl : l.stackTraces = false) {G : mw_G} {b : c_B} {x : s_T} {w : c_W} {M : mw_M} {j : Nat} (hA : CA G b x w M) (hi : q_inv 511 x) (hj : j < ct x 32) : mw_Met l G yX7_seal (.code yX7_seal cX7_seal 2 (some .int)) rm_q1 [.ref (b 0 0), .int (nI j)] M (mw_pi (fun r M1 => r = cg x 31 j ∧ M = M1)) := by
  refine mw_of hfl (by decide) (Nat.le_of_ble_eq_true rfl) ?_
  intro zp ze zs_ zm zb zh zc ls X hin hret hT hl
  have hl : lv_has ls 2 [(0, .ref (b 0 0)), (1, .int (nI j))] := hl
  have h32 := hi.1.2.2.2.2.2.2.2
  refine lv_aload_n X.1 X.2.1 dX7_seal_0 rfl (lv_at hl 0 rfl) ?_
  refine lv_iload_n X.1 X.2.1 dX7_seal_1 rfl (lv_at hl 1 rfl) ?_
  refine mr_g X hT (fun hT' => mr_runV X hT' cb_RX7_245 kw435 kp15 kw436 (c_reqOK hfl hA hi hj) (mr_cell X hT hA.gate rfl) rfl rfl hl.1 ⟨Nat.le_of_ble_eq_true rfl, Nat.le_of_ble_eq_true rfl⟩ (Nat.le_of_ble_eq_true rfl) dX7_seal_2 ⟨Nat.le_of_ble_eq_true rfl, Nat.le_of_ble_eq_true rfl⟩) (fun v M1 H locs hp hT => ?_)
  obtain ⟨rfl, rfl⟩ := hp
  refine W.eq (g2 := F0 zm 5 ls _) rfl ?_
  refine lv_aload_n X.1 X.2.1 dX7_seal_5 rfl (lv_at hl 0 rfl) ?_
  refine mr_get X hT fl_RX7_34 (hA.gate) rfl dX7_seal_6 ?_
  refine mr_get X hT fl_RX7_252 (hA.rec) rfl dX7_seal_9 ?_
  refine lv_iload_n X.1 X.2.1 dX7_seal_12 rfl (lv_at hl 1 rfl) ?_
  refine mr_iald X hT hA.sea (vp_in_nI (show j < 1024 by omega) (by decide)) dX7_seal_13 ?_
  refine mm_top (w := cg x 31 j) (by rw [nI_clamp (by omega)]) ?_
  exact mr_iret X hT hret (⟨_, rfl, rfl, rfl⟩) (Nat.le_of_ble_eq_true rfl) (Nat.le_of_ble_eq_true rfl) dX7_seal_14
