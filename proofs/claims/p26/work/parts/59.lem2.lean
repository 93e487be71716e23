/-! what the class's calls do, told of the state -/
section L2
variable {G : mw_G} {b b1 : c_B} {x x1 y : s_T} {w w1 : c_W} {M M1 : mw_M} {T n N : Nat} {t : Int32}
theorem c_fae (hA : CA G b x w M) {v : Int32} {j : Nat} (hv : v = -1 ∨ q_ref v (ct x 2)) (hj : j < ct x 2) (hb : ct x 2 < 2 ^ 31) (h : (if v = -1 then none else some (b 6 (pn v))) = some (b 6 j)) : v = nI j := by
  rcases hv with h1 | h1
  · rw [if_pos h1] at h
    cases h
  · by_cases h2 : v = -1
    · rw [if_pos h2] at h
      cases h
    · rw [if_neg h2] at h
      exact (hA.sameP h1 hj hb).mp h
theorem c_ok.set15 (h : c_ok T b x w) (k : Nat) {v : Int32} (hv : v ≠ 0) : c_ok T b (cs x 15 k v) (cw w 1 k v) := by
  obtain ⟨o1, o2, o3, o4, o5, o6⟩ := h
  refine ⟨fun i hi u hu => ?_, fun i hi => ?_, fun i hi hz => ?_, o4, ?_, ?_⟩
  · have h := o1 i hi u hu
    simpa [cw_get, cg_cs] using h
  · rw [cg_cs, if_pos rfl, cw_get, if_pos rfl]
    by_cases hk : i = k
    · rw [if_pos hk, if_pos hk]
      unfold c_lap
      rw [if_neg (fun z => hv z.1)]
    · rw [if_neg hk, if_neg hk]
      have h := o2 i hi
      simpa [cg_cs] using h
  · have hz : cg x 25 i ≠ 0 := by simpa [cg_cs] using hz
    have h := o3 i hi hz
    simpa [cw_get, cg_cs] using h
  · rw [q_opn_congr (x := cs x 15 k v) (y := x) (fun k _ => by simp [cg_cs])]
    simpa [cw_get, ct_cs] using o5
  · rw [q_last_sim (y := cs x 15 k v) (x := x) rfl (by funext z; simp [cg_cs])]
    simpa [cw_get] using o6
theorem CA.set15 (hA : CA G b x w M) {k : Nat} (hk : k < ct x 17) (v : Int32) : CA G b (cs x 15 k v) (cw w 1 k v) (va_up M (b 8 k) (some (.inr (1, [.ref (b 6 (pn (cg x 11 k))), .ref (b 7 (pn (cg x 12 k))), .int (cg x 13 k), .int (cg x 14 k), va_rf (if cg x 16 k = -1 then none else some (b 6 (pn (cg x 16 k)))), .int v])))) :=
  (hA.setSt hk v).free (c := 15) _ (Or.inr (Or.inl rfl))
theorem CA.setHeld2 (hA : CA G b x w M) {k : Nat} (hk : k < ct x 29) (v : Int32) : CA G b (cs x 27 k v) (cw w 2 k v) (va_up M (b 11 k) (some (.inr (6, [.ref (b 6 (pn (cg x 23 k))), .ref (b 7 (pn (cg x 24 k))), .int (bI (decide (cg x 25 k = 0))), .int (cg x 26 k), .int v, .int (cg x 28 k)])))) :=
  (hA.setHeld hk v).free (c := 27) _ (Or.inr (Or.inr rfl))
theorem c_ok.set27 (h : c_ok T b x w) (k : Nat) (v : Int32) : c_ok T b (cs x 27 k v) (cw w 2 k v) := by
  obtain ⟨o1, o2, o3, o4, o5, o6⟩ := h
  refine ⟨fun i hi u hu => ?_, fun i hi => ?_, fun i hi hz => ?_, o4, ?_, ?_⟩
  · have h := o1 i hi u hu
    simpa [cw_get, cg_cs] using h
  · have h := o2 i hi
    simpa [cw_get, cg_cs] using h
  · have hz : cg x 25 i ≠ 0 := by simpa [cg_cs] using hz
    rw [cw_get, if_pos rfl, cg_cs, if_pos rfl]
    by_cases hk : i = k
    · rw [if_pos hk, if_pos hk]
    · rw [if_neg hk, if_neg hk]
      exact o3 i hi hz
  · rw [q_opn_congr (x := cs x 27 k v) (y := x) (fun k _ => by simp [cg_cs])]
    simpa [cw_get, ct_cs] using o5
  · rw [q_last_sim (y := cs x 27 k v) (x := x) rfl (by funext z; simp [cg_cs])]
    simpa [cw_get] using o6
/-- a row that is written ahead of a step, or behind it -/
theorem q_write_cs (x : s_T) (c i : Nat) (v kd p m : Int32) (h30 : c ≠ 30) (h31 : c ≠ 31) : cs (q_write x kd p m) c i v = q_write (cs x c i v) kd p m := by
  have e : q_seal (cs x c i v) kd p m = q_seal x kd p m := by
    unfold q_seal
    rw [q_last_sim (y := cs x c i v) (x := x) rfl (by funext z; rw [cg_cs, if_neg (Ne.symm h31)])]
    rfl
  refine s_ext (fun k => ?_) (fun k z => ?_)
  · unfold q_write
    simp [ct_cs, ct_ss]
  · unfold q_write
    rw [e]
    simp only [cg_cs, cg_ss, ct_cs]
    by_cases hc : k = c
    · subst hc
      simp [h30, h31]
    · simp [hc]
/-! bounds behind a call's parts -/
theorem q_inv_entry (h : q_inv N x) {j m : Nat} (hj : j < ct x 2) (hm : m < ct x 4) : q_inv (N + 1) (ss (cs (cs (cs x 18 (ct x 22) (nI j)) 19 (ct x 22) (nI m)) 20 (ct x 22) (q_now x)) 22 (ct x 22 + 1)) := by
  obtain ⟨⟨i2, i4, i5, i10, i17, i22, i29, i32⟩, hr3, hr6, hr11, hr18, hr23, hz21, hz28, hlb⟩ := h
  have eo : q_opn (ss (cs (cs (cs x 18 (ct x 22) (nI j)) 19 (ct x 22) (nI m)) 20 (ct x 22) (q_now x)) 22 (ct x 22 + 1)) (ct x 29) = q_opn x (ct x 29) := q_opn_congr (fun k _ => by simp [cg_ss, cg_cs])
  refine ⟨?_, ?_, ?_, ?_, ?_, ?_, ?_, ?_, ?_⟩
  · simp only [ct_ss, ct_cs]
    refine ⟨by simpa using i2, by simpa using i4, by simpa using i5, by simp; omega, by simp; omega, by simp; omega, by simp; omega, ?_⟩
    simp only [if_neg (show ¬ (29 : Nat) = 22 by decide), if_neg (show ¬ (32 : Nat) = 22 by decide)]
    rw [eo]
    omega
  · simpa [cg_ss, cg_cs, ct_ss, ct_cs] using hr3
  · simpa [cg_ss, cg_cs, ct_ss, ct_cs] using hr6
  · simpa [cg_ss, cg_cs, ct_ss, ct_cs] using hr11
  · intro k hk
    have hk : k < ct x 22 + 1 := by simpa [ct_ss, ct_cs] using hk
    by_cases hkn : k = ct x 22
    · simp [cg_ss, cg_cs, ct_ss, ct_cs, hkn]
      exact ⟨⟨j, hj, rfl⟩, ⟨m, hm, rfl⟩⟩
    · have h := hr18 k (by omega)
      simpa [cg_ss, cg_cs, ct_ss, ct_cs, hkn] using h
  · simpa [cg_ss, cg_cs, ct_ss, ct_cs] using hr23
  · intro k hk
    have hk : ct x 22 + 1 ≤ k := by simpa [ct_ss, ct_cs] using hk
    have h := hz21 k (by omega)
    simpa [cg_ss, cg_cs] using h
  · simpa [cg_ss, cg_cs, ct_ss, ct_cs] using hz28
  · simpa [cg_ss, cg_cs, ct_ss, ct_cs] using hlb
/-- with a forbidden line: the session has no right any more -/
theorem q_hold_ends (x : s_T) (p m : Int32) : ∀ k, k ≤ ct x 10 → q_hold (q_ends x p m) p m (q_now x) k = false
  | 0, _ => rfl
  | k + 1, hk => by
    rw [q_hold, q_hold_ends x p m k (by omega), Bool.false_or]
    unfold q_hold1 q_ends
    have e : cg (cf x 9 (q_endf x p m (ct x 10))) 9 k = q_endf x p m (ct x 10) k := by rw [cg_cf, if_pos rfl]
    have g : ∀ c, c ≠ 9 → cg (cf x 9 (q_endf x p m (ct x 10))) c k = cg x c k := fun c hc => by rw [cg_cf, if_neg hc]
    rw [e, g 6 (by decide), g 7 (by decide), g 8 (by decide)]
    unfold q_endf
    by_cases h : q_hold1 x p m (q_now x) k = true
    · rw [if_pos ⟨by omega, h⟩, decide_eq_false (show ¬ q_now x < q_now x from Int32.lt_irrefl), Bool.and_false]
    · rw [if_neg (fun z => h z.2)]
      exact Bool.eq_false_iff.mpr h
theorem q_hold_sim {x y : s_T} (h : ∀ c, c ∈ [6, 7, 8, 9] → cg y c = cg x c) (p m t : Int32) : ∀ n, q_hold y p m t n = q_hold x p m t n
  | 0 => rfl
  | n + 1 => by
    rw [q_hold, q_hold, q_hold_sim h p m t n]
    unfold q_hold1
    rw [h 6 (by decide), h 7 (by decide), h 8 (by decide), h 9 (by decide)]
theorem q_close_also {x : s_T} {a : Nat} (ha : a < 2 ^ 31) (hh : q_hold x (cg x 23 a) (cg x 24 a) (q_now x) (ct x 10) = false) : ∀ k, k ≤ 2 ^ 31 → q_close x (nI a) k = q_close x (-1) k
  | 0, _ => rfl
  | k + 1, hk => by
    have ih := q_close_also ha hh k (by omega)
    have hal := q_al_close x (-1) k
    have e : q_end1 (q_close x (-1) k).1 (nI a) k = q_end1 (q_close x (-1) k).1 (-1) k := by
      unfold q_end1
      by_cases hka : k = a
      · subst hka
        have e1 : ∀ c, c ∈ [23, 24] → cg (q_close x (-1) k).1 c k = cg x c k := fun c hc => hal.2 c (by intro z; subst z; revert hc; decide) (by intro z; subst z; revert hc; decide) (by intro z; subst z; revert hc; decide) (by intro z; subst z; revert hc; decide) k
        have e2 : q_hold (q_close x (-1) k).1 (cg x 23 k) (cg x 24 k) (q_now x) (ct x 10) = false := by
          rw [q_hold_sim (x := x) (fun c hc => funext fun i => hal.2 c (by intro z; subst z; revert hc; decide) (by intro z; subst z; revert hc; decide) (by intro z; subst z; revert hc; decide) (by intro z; subst z; revert hc; decide) i)]
          exact hh
        have e3 : q_now (q_close x (-1) k).1 = q_now x := congrArg nI (hal.1 5 (by decide))
        rw [e1 23 (by decide), e1 24 (by decide), e3, hal.1 10 (by decide), e2]
        simp
      · rw [decide_eq_false (fun z => hka ((nI_eq (by omega) ha).mp z)), decide_eq_false (c_neg1 (show k < 2 ^ 31 by omega))]
    by_cases h : q_end1 (q_close x (-1) k).1 (-1) k = true
    · rw [q_close_t (a := -1) h, q_close_t (a := nI a) (by rw [ih, e]; exact h), ih]
    · rw [q_close_f (a := -1) (Bool.eq_false_iff.mpr h), q_close_f (a := nI a) (by rw [ih, e]; exact Bool.eq_false_iff.mpr h), ih]
/-! minutes that pass with nothing open -/
theorem q_opn_0 {x : s_T} : ∀ {n : Nat}, q_opn x n = 0 → ∀ k, k < n → cg x 25 k = 0
  | 0, _, k, hk => absurd hk (Nat.not_lt_zero _)
  | n + 1, h, k, hk => by
    rw [q_opn] at h
    rcases Nat.lt_or_ge k n with z | z
    · exact q_opn_0 (by omega) k z
    · rw [show k = n by omega]
      by_cases hq : cg x 25 n = 0
      · exact hq
      · rw [if_neg hq] at h
        omega
theorem q_close_idle {x : s_T} {a : Int32} : ∀ n, (∀ k, k < n → cg x 25 k = 0) → q_close x a n = (x, 0)
  | 0, _ => rfl
  | n + 1, h => by
    have ih := q_close_idle (a := a) n (fun k hk => h k (by omega))
    rw [q_close_f (by rw [ih]; unfold q_end1; rw [h n (by omega)]; rfl), ih]
theorem q_tick_idle {x : s_T} {i : Nat} (h : q_opn (q_tick x i).1 (ct (q_tick x i).1 29) = 0) : ∀ d, q_tick x (i + d) = (ss (q_tick x i).1 5 (ct (q_tick x i).1 5 + d), (q_tick x i).2)
  | 0 => by
    refine Prod.ext ?_ rfl
    refine s_ext (fun k => ?_) (fun _ _ => rfl)
    rw [ct_ss]
    by_cases hk : k = 5
    · rw [if_pos hk, hk]; rfl
    · rw [if_neg hk]; rfl
  | d + 1 => by
    have ih := q_tick_idle h d
    have e : q_tick x (i + (d + 1)) = ((q_closes (ss (q_tick x (i + d)).1 5 (ct (q_tick x (i + d)).1 5 + 1)) (-1)).1, (q_tick x (i + d)).2 + (q_closes (ss (q_tick x (i + d)).1 5 (ct (q_tick x (i + d)).1 5 + 1)) (-1)).2) := rfl
    rw [e, ih]
    have h0 := q_opn_0 h
    have e2 : ss (ss (q_tick x i).1 5 (ct (q_tick x i).1 5 + d)) 5 (ct (ss (q_tick x i).1 5 (ct (q_tick x i).1 5 + d)) 5 + 1) = ss (q_tick x i).1 5 (ct (q_tick x i).1 5 + (d + 1)) := by
      refine s_ext (fun k => ?_) (fun _ _ => rfl)
      rw [ct_ss, ct_ss, ct_ss, ct_ss, if_pos rfl]
      by_cases hk : k = 5
      · rw [if_pos hk, if_pos hk]; omega
      · rw [if_neg hk, if_neg hk, if_neg hk]
    simp only []
    rw [e2]
    unfold q_closes
    rw [q_close_idle (x := ss (q_tick x i).1 5 (ct (q_tick x i).1 5 + (d + 1))) (a := -1) _ (fun k hk => h0 k (by simpa [ct_ss] using hk))]
    exact Prod.ext rfl (Int32.add_zero _)
/-- an ask's state behind the minutes -/
theorem c_ok.lapse {T2 : Nat} (h : c_ok T b x w) (h1 : T ≤ T2) (h2 : T2 = ct x 5) (hT2 : T2 ≤ 100000) (hr : ∀ k, k < ct x 17 → q_ref (cg x 14 k) (T + 1)) : c_ok T2 b (q_lapse x) w := by
  obtain ⟨o1, o2, o3, o4, o5, o6⟩ := h
  refine ⟨fun i hi u hu => ?_, fun i hi => ?_, fun i hi hz => ?_, o4, ?_, ?_⟩
  · have h := o1 i hi u hu
    simpa [q_lapse, cg_cf] using h
  · have hi : i < ct x 17 := hi
    have h := o2 i hi
    obtain ⟨v, hv, ev⟩ := hr i hi
    have e1 : nI T - cg x 14 i = nI (T - v) := by rw [ev, pk_sub (by omega)]
    have e2 : nI T2 - cg x 14 i = nI (T2 - v) := by rw [ev, pk_sub (by omega)]
    have q1 : (60 ≤ nI T - cg x 14 i) ↔ 60 ≤ T - v := by rw [e1]; exact nI_leI (a := 60) (by decide) (by omega)
    have q2 : (60 ≤ nI T2 - cg x 14 i) ↔ 60 ≤ T2 - v := by rw [e2]; exact nI_leI (a := 60) (by decide) (by omega)
    have g15 : cg (q_lapse x) 15 i = if q_lap1 x i = true then 3 else cg x 15 i := by
      unfold q_lapse
      rw [cg_cf, if_pos rfl]
      unfold q_lapf
      by_cases hq : q_lap1 x i = true
      · rw [if_pos ⟨hi, hq⟩, if_pos hq]
      · rw [if_neg (fun z => hq z.2), if_neg hq]
    have g14 : cg (q_lapse x) 14 i = cg x 14 i := by
      unfold q_lapse
      rw [cg_cf, if_neg (by decide)]
    have gl : q_lap1 x i = (decide (cg x 15 i = 0) && decide (60 ≤ nI T2 - cg x 14 i)) := by unfold q_lap1; rw [h2]
    rw [g15, g14, gl]
    by_cases hs : w.1 1 i = 0
    · by_cases ha : 60 ≤ T - v
      · have h3 : cg x 15 i = 3 := by rw [h]; exact if_pos ⟨hs, q1.mpr ha⟩
        rw [h3, show c_lap T2 (w.1 1 i) (cg x 14 i) = 3 from if_pos ⟨hs, q2.mpr (by omega)⟩]
        exact ite_self 3
      · have h0 : cg x 15 i = 0 := by rw [h, ← hs]; exact if_neg (fun z => ha (q1.mp z.2))
        rw [h0, decide_eq_true (show (0 : Int32) = 0 from rfl), Bool.true_and]
        by_cases hb : 60 ≤ T2 - v
        · rw [decide_eq_true (q2.mpr hb), if_pos rfl]
          exact (if_pos ⟨hs, q2.mpr hb⟩).symm
        · rw [decide_eq_false (fun z => hb (q2.mp z)), if_neg (fun z => by cases z), ← hs]
          exact (if_neg (fun z => hb (q2.mp z.2))).symm
    · have h0 : cg x 15 i = w.1 1 i := by rw [h]; exact if_neg (fun z => hs z.1)
      rw [h0, decide_eq_false hs, Bool.false_and, if_neg (fun z => by cases z)]
      exact (if_neg (fun z => hs z.1)).symm
  · have hz : cg x 25 i ≠ 0 := by simpa [q_lapse, cg_cf] using hz
    have h := o3 i hi hz
    simpa [q_lapse, cg_cf] using h
  · rw [q_opn_congr (x := q_lapse x) (y := x) (fun k _ => by simp [q_lapse, cg_cf])]
    exact o5
  · rw [q_last_sim (y := q_lapse x) (x := x) rfl (by funext z; simp [q_lapse, cg_cf])]
    exact o6
theorem c_ok.now (h : c_ok T b x w) (n : Nat) : c_ok T b (ss x 5 n) w := by
  obtain ⟨o1, o2, o3, o4, o5, o6⟩ := h
  have e : ∀ c, c ≠ 5 → ct (ss x 5 n) c = ct x c := fun c hc => by rw [ct_ss, if_neg hc]
  refine ⟨fun i hi u hu => o1 i (by rw [e 2 (by decide)] at hi; exact hi) u hu, fun i hi => o2 i (by rw [e 17 (by decide)] at hi; exact hi), fun i hi hz => o3 i (by rw [e 29 (by decide)] at hi; exact hi) hz, fun i hi => ?_, ?_, ?_⟩
  · rw [e (cI i) (cI_5 i)]
    exact o4 i hi
  · rw [q_opn_congr (x := ss x 5 n) (y := x) (fun k _ => Iff.rfl), e 29 (by decide)]
    exact o5
  · rw [q_last_sim (y := ss x 5 n) (x := x) (e 32 (by decide)) rfl]
    exact o6
end L2
