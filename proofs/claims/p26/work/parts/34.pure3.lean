theorem q_code_ok {a b c : Bool} (h : q_code a b c = 0) : a = true ∧ b = true ∧ c = true := by
  revert h
  cases a <;> cases b <;> cases c <;> decide
theorem q_in_of {v : Int32} {lo hi : Nat} (hh : hi < 2 ^ 31) (h : q_in v (nI lo) (nI hi) = true) (hl : lo < 2 ^ 31) : ∃ j, lo ≤ j ∧ j ≤ hi ∧ v = nI j := by
  unfold q_in at h
  rw [Bool.and_eq_true, decide_eq_true_eq, decide_eq_true_eq] at h
  have h0 : ¬ v < 0 := fun z => by
    have a := Int32.le_iff_toInt_le.mp h.1
    have b := Int32.lt_iff_toInt_lt.mp z
    rw [nI_toInt hl] at a
    have e0 : (0 : Int32).toInt = 0 := rfl
    omega
  obtain ⟨j, hj, rfl⟩ := nI_of h0
  exact ⟨j, (nI_leI hl hj).mp h.1, (nI_leI hj hh).mp h.2, rfl⟩
theorem q_inv_mono {N K : Nat} {x : s_T} (h : q_inv N x) (hk : N ≤ K) : q_inv K x := by
  obtain ⟨⟨i2, i4, i5, i10, i17, i22, i29, i32⟩, hr⟩ := h
  exact ⟨⟨i2, i4, i5, by omega, by omega, by omega, by omega, by omega⟩, hr⟩
/-- all that the bounds speak of is as it was -/
def q_sim (x y : s_T) : Prop := (∀ k, k ≠ 32 → ct y k = ct x k) ∧ ∀ k, k ∈ [1, 3, 6, 7, 11, 12, 14, 16, 18, 19, 21, 23, 24, 28] → cg y k = cg x k
theorem q_inv_sim {N : Nat} {x y : s_T} (h : q_inv N x) (ha : q_sim x y) (hs : ct y 32 + q_opn y (ct y 29) ≤ 2 * N) : q_inv N y := by
  obtain ⟨⟨i2, i4, i5, i10, i17, i22, i29, i32⟩, hr3, hr6, hr11, hr18, hr23, hz21, hz28, hlb⟩ := h
  obtain ⟨a1, g⟩ := ha
  have e2 := a1 2 (by decide)
  have e4 := a1 4 (by decide)
  have e5 := a1 5 (by decide)
  have e10 := a1 10 (by decide)
  have e17 := a1 17 (by decide)
  have e22 := a1 22 (by decide)
  have e29 := a1 29 (by decide)
  refine ⟨⟨by omega, by omega, by omega, by omega, by omega, by omega, by omega, hs⟩, ?_, ?_, ?_, ?_, ?_, ?_, ?_, ?_⟩
  · rw [e4, g 3 (by decide)]; exact hr3
  · rw [e10, e2, e4, g 6 (by decide), g 7 (by decide)]; exact hr6
  · rw [e17, e2, e4, e5, g 11 (by decide), g 12 (by decide), g 14 (by decide), g 16 (by decide)]; exact hr11
  · rw [e22, e2, e4, g 18 (by decide), g 19 (by decide)]; exact hr18
  · rw [e29, e2, e4, g 23 (by decide), g 24 (by decide)]; exact hr23
  · rw [e22, g 21 (by decide)]; exact hz21
  · rw [e29, g 28 (by decide)]; exact hz28
  · rw [g 1 (by decide)]; exact hlb
theorem q_sim.tr {x y z : s_T} (h1 : q_sim x y) (h2 : q_sim y z) : q_sim x z := ⟨fun k hk => (h2.1 k hk).trans (h1.1 k hk), fun k hk => (h2.2 k hk).trans (h1.2 k hk)⟩
theorem q_sim.rf (x : s_T) : q_sim x x := ⟨fun _ _ => rfl, fun _ _ => rfl⟩
theorem q_sim_cf (x : s_T) {c : Nat} (f : Nat → Int32) (hc : c ∉ [1, 3, 6, 7, 11, 12, 14, 16, 18, 19, 21, 23, 24, 28]) : q_sim x (cf x c f) := ⟨fun _ _ => rfl, fun k hk => funext fun i => by rw [cg_cf, if_neg (fun z : k = c => hc (z ▸ hk))]⟩
theorem q_sim_cs (x : s_T) {c : Nat} (i : Nat) (v : Int32) (hc : c ∉ [1, 3, 6, 7, 11, 12, 14, 16, 18, 19, 21, 23, 24, 28]) : q_sim x (cs x c i v) := ⟨fun _ _ => rfl, fun k hk => funext fun j => by rw [cg_cs, if_neg (fun z : k = c => hc (z ▸ hk))]⟩
theorem q_sim_write (x : s_T) (kd p m : Int32) : q_sim x (q_write x kd p m) := by
  refine ⟨fun k hk => ?_, fun k hk => funext fun i => ?_⟩
  · unfold q_write
    rw [ct_ss, if_neg hk]
    rfl
  · unfold q_write
    rw [cg_ss, cg_cs, if_neg (fun z => by rw [z] at hk; exact absurd hk (by decide)), cg_cs, if_neg (fun z => by rw [z] at hk; exact absurd hk (by decide))]
theorem q_inv_cf {N : Nat} {x : s_T} (h : q_inv N x) {c : Nat} (f : Nat → Int32) (hc : c ∉ [1, 3, 6, 7, 11, 12, 14, 16, 18, 19, 21, 23, 24, 28]) (h25 : c ≠ 25) : q_inv N (cf x c f) :=
  q_inv_sim h (q_sim_cf x f hc) (by rw [ct_cf, ct_cf, q_opn_congr (x := cf x c f) (y := x) (fun k _ => by rw [cg_cf, if_neg (Ne.symm h25)])]; exact h.1.2.2.2.2.2.2.2)
theorem q_inv_cs {N : Nat} {x : s_T} (h : q_inv N x) {c : Nat} (i : Nat) (v : Int32) (hc : c ∉ [1, 3, 6, 7, 11, 12, 14, 16, 18, 19, 21, 23, 24, 28]) (h25 : c ≠ 25) : q_inv N (cs x c i v) :=
  q_inv_sim h (q_sim_cs x i v hc) (by rw [ct_cs, ct_cs, q_opn_congr (x := cs x c i v) (y := x) (fun k _ => by rw [cg_cs, if_neg (Ne.symm h25)])]; exact h.1.2.2.2.2.2.2.2)
theorem q_inv_ends {N : Nat} {x : s_T} (h : q_inv N x) (p m : Int32) : q_inv N (q_ends x p m) := q_inv_cf h _ (by decide) (by decide)
theorem q_inv_denies {N : Nat} {x : s_T} (h : q_inv N x) (p m : Int32) : q_inv N (q_denies x p m) := q_inv_cf h _ (by decide) (by decide)
theorem q_opn_write (x : s_T) (kd p m : Int32) (n : Nat) : q_opn (q_write x kd p m) n = q_opn x n := q_opn_congr (fun k _ => by unfold q_write; rw [cg_ss, cg_cs, if_neg (by decide), cg_cs, if_neg (by decide)])
theorem q_inv_write {N : Nat} {x : s_T} (h : q_inv N x) (kd p m : Int32) : q_inv (N + 1) (q_write x kd p m) := by
  refine q_inv_sim (q_inv_mono h (Nat.le_succ N)) (q_sim_write x kd p m) ?_
  have h1 := h.1.2.2.2.2.2.2.2
  rw [q_opn_write]
  show (ct x 32 + 1) + q_opn x (ct x 29) ≤ 2 * (N + 1)
  omega
theorem q_strip_t {x : s_T} {p l : Int32} {k : Nat} (h : cg (q_strip x p l k) 3 k = l) : q_strip x p l (k + 1) = q_denies (q_ends (q_strip x p l k) p (nI k)) p (nI k) := by rw [q_strip, if_pos h]
theorem q_strip_f {x : s_T} {p l : Int32} {k : Nat} (h : ¬ cg (q_strip x p l k) 3 k = l) : q_strip x p l (k + 1) = q_strip x p l k := by rw [q_strip, if_neg h]
theorem q_strip_ct (x : s_T) (p l : Int32) (j : Nat) : ∀ k, ct (q_strip x p l k) j = ct x j
  | 0 => rfl
  | k + 1 => by
    by_cases h : cg (q_strip x p l k) 3 k = l
    · rw [q_strip_t h]
      exact q_strip_ct x p l j k
    · rw [q_strip_f h]
      exact q_strip_ct x p l j k
theorem q_inv_strip {N : Nat} {x : s_T} (h : q_inv N x) (p l : Int32) : ∀ k, q_inv N (q_strip x p l k)
  | 0 => h
  | k + 1 => by
    by_cases hq : cg (q_strip x p l k) 3 k = l
    · rw [q_strip_t hq]
      exact q_inv_denies (q_inv_ends (q_inv_strip h p l k) p (nI k)) p (nI k)
    · rw [q_strip_f hq]
      exact q_inv_strip h p l k
theorem q_inv_lab {N : Nat} {x : s_T} (h : q_inv N x) (i : Nat) (b : Bool) : q_inv N (cs x 1 i (bI b)) := by
  obtain ⟨hb, hr3, hr6, hr11, hr18, hr23, hz21, hz28, hlb⟩ := h
  have g : ∀ k, k ≠ 1 → cg (cs x 1 i (bI b)) k = cg x k := fun k hk => funext fun j => by rw [cg_cs, if_neg hk]
  refine ⟨by rw [q_opn_congr (x := cs x 1 i (bI b)) (y := x) (fun k _ => by rw [g 25 (by decide)])]; exact hb, by rw [g 3 (by decide)]; exact hr3, by rw [g 6 (by decide), g 7 (by decide)]; exact hr6, by rw [g 11 (by decide), g 12 (by decide), g 14 (by decide), g 16 (by decide)]; exact hr11, by rw [g 18 (by decide), g 19 (by decide)]; exact hr18, by rw [g 23 (by decide), g 24 (by decide)]; exact hr23, by rw [g 21 (by decide)]; exact hz21, by rw [g 28 (by decide)]; exact hz28, fun k => ?_⟩
  rw [cg_cs, if_pos rfl]
  by_cases hk : k = i
  · rw [if_pos hk]
    cases b
    · exact Or.inl rfl
    · exact Or.inr rfl
  · rw [if_neg hk]
    exact hlb k
theorem q_inv_clock {N : Nat} {x : s_T} (h : q_inv N x) {n : Nat} (hn : ct x 5 ≤ n) (h5 : n ≤ 100000) : q_inv N (ss x 5 n) := by
  obtain ⟨⟨i2, i4, i5, i10, i17, i22, i29, i32⟩, hr3, hr6, hr11, hr18, hr23, hz21, hz28, hlb⟩ := h
  refine ⟨⟨i2, i4, h5, i10, i17, i22, i29, ?_⟩, hr3, hr6, fun k hk => ?_, hr18, hr23, hz21, hz28, hlb⟩
  · rw [q_opn_congr (x := ss x 5 n) (y := x) (fun k _ => Iff.rfl)]
    exact i32
  · obtain ⟨h1, h2, ⟨j, hj, ej⟩, h4⟩ := hr11 k hk
    exact ⟨h1, h2, ⟨j, by show j < n + 1; omega, ej⟩, h4⟩
theorem q_closes_ct {x : s_T} {a : Int32} {k : Nat} (hk : k ≠ 32) : ct (q_closes x a).1 k = ct x k := (q_al_close x a (ct x 29)).1 k hk
theorem q_inv_closes {N : Nat} {x : s_T} (h : q_inv N x) (a : Int32) : q_inv N (q_closes x a).1 := q_inv_close h a _ (Nat.le_refl _)
theorem q_tick_5 (x : s_T) : ∀ k, ct (q_tick x k).1 5 = ct x 5 + k
  | 0 => rfl
  | k + 1 => by
    show ct (q_closes (ss (q_tick x k).1 5 (ct (q_tick x k).1 5 + 1)) (-1)).1 5 = _
    rw [q_closes_ct (by decide), ct_ss, if_pos rfl, q_tick_5 x k]
    rfl
theorem q_inv_tick {N : Nat} {x : s_T} (h : q_inv N x) : ∀ k, ct x 5 + k ≤ 100000 → q_inv N (q_tick x k).1
  | 0, _ => h
  | k + 1, hk => by
    have ih := q_inv_tick h k (by omega)
    have e := q_tick_5 x k
    exact q_inv_closes (q_inv_clock ih (Nat.le_succ _) (by omega)) (-1)
theorem q_tick_ct (x : s_T) {j : Nat} (h5 : j ≠ 5) (h32 : j ≠ 32) : ∀ k, ct (q_tick x k).1 j = ct x j
  | 0 => rfl
  | k + 1 => by
    show ct (q_closes (ss (q_tick x k).1 5 (ct (q_tick x k).1 5 + 1)) (-1)).1 j = _
    rw [q_closes_ct h32, ct_ss, if_neg h5, q_tick_ct x h5 h32 k]
theorem q_12 {n : Nat} (hn : n < 2 ^ 31) (k : Nat) (hk : k < 2 ^ 31) : (nI k ≤ nI n) ↔ ¬ n < k := (nI_leI hk hn).trans Nat.not_lt.symm
