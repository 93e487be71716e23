/-! about the state: counted rows, closing -/
theorem q_step {F : Nat → Nat → Int32} {x : s_T} {c k : Nat} (hF : ∀ z, z ≠ k → F (k + 1) z = F k z) : cs (cf x c (F k)) c k (F (k + 1) k) = cf x c (F (k + 1)) := by
  refine s_ext (fun j => rfl) (fun j z => ?_)
  rw [cg_cs, cg_cf, cg_cf]
  by_cases hj : j = c
  · rw [if_pos hj, if_pos hj, if_pos hj]
    by_cases hz : z = k
    · rw [if_pos hz, hz]
    · rw [if_neg hz, hF z hz]
  · rw [if_neg hj, if_neg hj, if_neg hj]
theorem q_same {x : s_T} {c : Nat} {f : Nat → Int32} (h : ∀ z, f z = cg x c z) : cf x c f = x := by
  refine s_ext (fun j => rfl) (fun j z => ?_)
  rw [cg_cf]
  by_cases hj : j = c
  · rw [if_pos hj, hj, h z]
  · rw [if_neg hj]
theorem q_endf_s (x : s_T) (p m : Int32) (k : Nat) : cs (cf x 9 (q_endf x p m k)) 9 k (q_endf x p m (k + 1) k) = cf x 9 (q_endf x p m (k + 1)) := q_step (F := q_endf x p m) (fun z hz => by
  unfold q_endf
  by_cases h : q_hold1 x p m (q_now x) z = true
  · simp only [h, and_true]
    by_cases h2 : z < k
    · rw [if_pos h2, if_pos (by omega)]
    · rw [if_neg h2, if_neg (by omega)]
  · simp [h])
theorem q_endf_0 (x : s_T) (p m : Int32) : cf x 9 (q_endf x p m 0) = x := q_same (fun z => by unfold q_endf; rw [if_neg (fun h => absurd h.1 (Nat.not_lt_zero _))])
theorem q_endf_k (x : s_T) (p m : Int32) (k : Nat) : cg (cf x 9 (q_endf x p m k)) 9 k = cg x 9 k := by
  rw [cg_cf, if_pos rfl]
  unfold q_endf
  rw [if_neg (fun h => absurd h.1 (Nat.lt_irrefl _))]
theorem q_denyf_s (x : s_T) (p m : Int32) (k : Nat) : cs (cf x 15 (q_denyf x p m k)) 15 k (q_denyf x p m (k + 1) k) = cf x 15 (q_denyf x p m (k + 1)) := q_step (F := q_denyf x p m) (fun z hz => by
  unfold q_denyf
  by_cases h : q_deny1 x p m z = true
  · simp only [h, and_true]
    by_cases h2 : z < k
    · rw [if_pos h2, if_pos (by omega)]
    · rw [if_neg h2, if_neg (by omega)]
  · simp [h])
theorem q_denyf_0 (x : s_T) (p m : Int32) : cf x 15 (q_denyf x p m 0) = x := q_same (fun z => by unfold q_denyf; rw [if_neg (fun h => absurd h.1 (Nat.not_lt_zero _))])
theorem q_denyf_k (x : s_T) (p m : Int32) (k : Nat) : cg (cf x 15 (q_denyf x p m k)) 15 k = cg x 15 k := by
  rw [cg_cf, if_pos rfl]
  unfold q_denyf
  rw [if_neg (fun h => absurd h.1 (Nat.lt_irrefl _))]
theorem q_lapf_s (x : s_T) (k : Nat) : cs (cf x 15 (q_lapf x k)) 15 k (q_lapf x (k + 1) k) = cf x 15 (q_lapf x (k + 1)) := q_step (F := q_lapf x) (fun z hz => by
  unfold q_lapf
  by_cases h : q_lap1 x z = true
  · simp only [h, and_true]
    by_cases h2 : z < k
    · rw [if_pos h2, if_pos (by omega)]
    · rw [if_neg h2, if_neg (by omega)]
  · simp [h])
theorem q_lapf_0 (x : s_T) : cf x 15 (q_lapf x 0) = x := q_same (fun z => by unfold q_lapf; rw [if_neg (fun h => absurd h.1 (Nat.not_lt_zero _))])
theorem q_lapf_k (x : s_T) (k : Nat) : cg (cf x 15 (q_lapf x k)) 15 k = cg x 15 k := by
  rw [cg_cf, if_pos rfl]
  unfold q_lapf
  rw [if_neg (fun h => absurd h.1 (Nat.lt_irrefl _))]
theorem q_close_t {x : s_T} {a : Int32} {k : Nat} (h : q_end1 (q_close x a k).1 a k = true) : q_close x a (k + 1) = (q_shut (q_close x a k).1 k, (q_close x a k).2 + 1) := by
  rw [q_close, if_pos h]
theorem q_close_f {x : s_T} {a : Int32} {k : Nat} (h : q_end1 (q_close x a k).1 a k = false) : q_close x a (k + 1) = q_close x a k := by
  rw [q_close, if_neg (by rw [h]; exact fun z => by cases z)]
/-- what closing leaves alone -/
def q_al (x y : s_T) : Prop := (∀ k, k ≠ 32 → ct y k = ct x k) ∧ ∀ k, k ≠ 25 → k ≠ 27 → k ≠ 30 → k ≠ 31 → ∀ i, cg y k i = cg x k i
theorem q_al.rf (x : s_T) : q_al x x := ⟨fun _ _ => rfl, fun _ _ _ _ _ _ => rfl⟩
theorem q_al.tr {x y z : s_T} (h1 : q_al x y) (h2 : q_al y z) : q_al x z := ⟨fun k hk => (h2.1 k hk).trans (h1.1 k hk), fun k a b c d i => (h2.2 k a b c d i).trans (h1.2 k a b c d i)⟩
theorem q_al_write (x : s_T) (kd p m : Int32) : q_al x (q_write x kd p m) := by
  refine ⟨fun k hk => ?_, fun k a b c d i => ?_⟩
  · unfold q_write
    rw [ct_ss, if_neg hk]
    rfl
  · unfold q_write
    rw [cg_ss, cg_cs, if_neg d, cg_cs, if_neg c]
theorem q_al_shut (x : s_T) (k : Nat) : q_al x (q_shut x k) := by
  refine q_al.tr (y := cs (cs x 25 k 0) 27 k (-1)) ⟨fun _ _ => rfl, fun j a b c d i => ?_⟩ (q_al_write _ _ _ _)
  rw [cg_cs, if_neg b, cg_cs, if_neg a]
theorem q_al_close (x : s_T) (a : Int32) : ∀ k, q_al x (q_close x a k).1
  | 0 => q_al.rf x
  | k + 1 => by
    by_cases h : q_end1 (q_close x a k).1 a k = true
    · rw [q_close_t h]
      exact (q_al_close x a k).tr (q_al_shut _ _)
    · rw [q_close_f (Bool.eq_false_iff.mpr h)]
      exact q_al_close x a k
theorem q_opn_congr {x y : s_T} : ∀ {n : Nat}, (∀ k, k < n → (cg x 25 k = 0 ↔ cg y 25 k = 0)) → q_opn x n = q_opn y n
  | 0, _ => rfl
  | n + 1, h => by
    rw [q_opn, q_opn, q_opn_congr (fun k hk => h k (by omega))]
    have h1 := h n (by omega)
    by_cases h2 : cg x 25 n = 0
    · rw [if_pos h2, if_pos (h1.mp h2)]
    · rw [if_neg h2, if_neg (fun z => h2 (h1.mpr z))]
theorem q_opn_off {x y : s_T} {i : Nat} (hi : cg x 25 i ≠ 0) (hy : ∀ k, cg y 25 k = if k = i then 0 else cg x 25 k) : ∀ {n : Nat}, i < n → q_opn y n + 1 = q_opn x n
  | 0, h => absurd h (Nat.not_lt_zero _)
  | n + 1, h => by
    rw [q_opn, q_opn]
    by_cases hn : n = i
    · subst hn
      rw [hy n, if_pos rfl, if_pos rfl, if_neg hi, q_opn_congr (x := y) (y := x) (fun k hk => by rw [hy k, if_neg (by omega)])]
    · rw [hy n, if_neg hn]
      have := q_opn_off hi hy (n := n) (by omega)
      omega
theorem q_inv_al {N : Nat} {x y : s_T} (h : q_inv N x) (ha : q_al x y) (hs : ct y 32 + q_opn y (ct y 29) ≤ 2 * N) : q_inv N y := by
  obtain ⟨⟨i2, i4, i5, i10, i17, i22, i29, i32⟩, hr3, hr6, hr11, hr18, hr23, hz21, hz28, hlb⟩ := h
  obtain ⟨a1, a2⟩ := ha
  have e2 := a1 2 (by decide)
  have e4 := a1 4 (by decide)
  have e5 := a1 5 (by decide)
  have e10 := a1 10 (by decide)
  have e17 := a1 17 (by decide)
  have e22 := a1 22 (by decide)
  have e29 := a1 29 (by decide)
  have g : ∀ k, k ≠ 25 → k ≠ 27 → k ≠ 30 → k ≠ 31 → cg y k = cg x k := fun k a b c d => funext fun i => a2 k a b c d i
  refine ⟨⟨by omega, by omega, by omega, by omega, by omega, by omega, by omega, hs⟩, ?_, ?_, ?_, ?_, ?_, ?_, ?_, ?_⟩
  · rw [e4, g 3 (by decide) (by decide) (by decide) (by decide)]; exact hr3
  · rw [e10, e2, e4, g 6 (by decide) (by decide) (by decide) (by decide), g 7 (by decide) (by decide) (by decide) (by decide)]; exact hr6
  · rw [e17, e2, e4, e5, g 11 (by decide) (by decide) (by decide) (by decide), g 12 (by decide) (by decide) (by decide) (by decide), g 14 (by decide) (by decide) (by decide) (by decide), g 16 (by decide) (by decide) (by decide) (by decide)]; exact hr11
  · rw [e22, e2, e4, g 18 (by decide) (by decide) (by decide) (by decide), g 19 (by decide) (by decide) (by decide) (by decide)]; exact hr18
  · rw [e29, e2, e4, g 23 (by decide) (by decide) (by decide) (by decide), g 24 (by decide) (by decide) (by decide) (by decide)]; exact hr23
  · rw [e22, g 21 (by decide) (by decide) (by decide) (by decide)]; exact hz21
  · rw [e29, g 28 (by decide) (by decide) (by decide) (by decide)]; exact hz28
  · rw [g 1 (by decide) (by decide) (by decide) (by decide)]; exact hlb
theorem q_shut_25 (x : s_T) (k j : Nat) : cg (q_shut x k) 25 j = if j = k then 0 else cg x 25 j := by
  unfold q_shut q_write
  rw [cg_ss, cg_cs, if_neg (by decide), cg_cs, if_neg (by decide), cg_cs, if_neg (by decide), cg_cs, if_pos rfl]
theorem q_shut_32 (x : s_T) (k : Nat) : ct (q_shut x k) 32 = ct x 32 + 1 := rfl
theorem q_shut_29 (x : s_T) (k : Nat) : ct (q_shut x k) 29 = ct x 29 := rfl
theorem q_inv_shut {N : Nat} {x : s_T} {k : Nat} (h : q_inv N x) (hk : k < ct x 29) (ho : cg x 25 k ≠ 0) : q_inv N (q_shut x k) := by
  refine q_inv_al h (q_al_shut x k) ?_
  have h1 := q_opn_off ho (q_shut_25 x k) hk
  have h2 := h.1.2.2.2.2.2.2.2
  rw [q_shut_32, q_shut_29]
  omega
theorem q_end1_o {x : s_T} {a : Int32} {k : Nat} (h : q_end1 x a k = true) : cg x 25 k ≠ 0 := by
  unfold q_end1 at h
  rw [Bool.and_eq_true] at h
  exact of_decide_eq_true h.1
theorem q_inv_close {N : Nat} {x : s_T} (h : q_inv N x) (a : Int32) : ∀ k, k ≤ ct x 29 → q_inv N (q_close x a k).1
  | 0, _ => h
  | k + 1, hk => by
    have ih := q_inv_close h a k (by omega)
    by_cases hq : q_end1 (q_close x a k).1 a k = true
    · rw [q_close_t hq]
      refine q_inv_shut ih ?_ (q_end1_o hq)
      rw [(q_al_close x a k).1 29 (by decide)]
      omega
    · rw [q_close_f (Bool.eq_false_iff.mpr hq)]
      exact ih
theorem pn_nI {n : Nat} (h : n < 2 ^ 31) : pn (nI n) = n := nI_clamp h
