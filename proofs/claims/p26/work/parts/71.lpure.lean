/-! what the law's rows say of a state -/
def LRp (y : s_T) (f : Nat → Int32) : Prop := ∀ k, k < 5 → f (2 * k) = cg y 0 k ∧ ∀ t, t < 2 → c_bit (f (2 * k + 1)) t = cg y 1 (4 * k + t)
def LRl (y : s_T) (f : Nat → Int32) : Prop := ∀ k, k < 3 → f k = cg y 3 k
def LRm (y : s_T) (f : Nat → Int32) : Prop := f 0 = nI (ct y 2) ∧ f 1 = nI (ct y 4) ∧ f 2 = nI (ct y 5) ∧ f 3 = nI (ct y 10) ∧ f 4 = nI (ct y 17) ∧ f 5 = nI (ct y 22) ∧ f 6 = nI (ct y 29) ∧ f 7 = nI (ct y 32) ∧ f 8 = q_last y
def LRg (y : s_T) (f : Nat → Int32) : Prop := ∀ k, k < ct y 10 → f (3 * k) = 8 * cg y 6 k + cg y 7 k ∧ f (3 * k + 1) = cg y 8 k ∧ f (3 * k + 2) = cg y 9 k
def LRq (y : s_T) (f : Nat → Int32) : Prop := ∀ k, k < ct y 17 → f (5 * k) = 8 * cg y 11 k + cg y 12 k ∧ f (5 * k + 1) = cg y 13 k ∧ f (5 * k + 2) = cg y 14 k ∧ f (5 * k + 3) = cg y 15 k ∧ f (5 * k + 4) = cg y 16 k + 1
def LRe (y : s_T) (f : Nat → Int32) : Prop := ∀ k, k < ct y 22 → f (3 * k) = 8 * cg y 18 k + cg y 19 k ∧ f (3 * k + 1) = cg y 20 k ∧ f (3 * k + 2) = cg y 21 k
def LRn (y : s_T) (f : Nat → Int32) : Prop := ∀ k, k < ct y 29 → f (5 * k) = 8 * cg y 23 k + cg y 24 k ∧ f (5 * k + 1) = cg y 25 k ∧ f (5 * k + 2) = cg y 26 k ∧ f (5 * k + 3) = cg y 27 k + 1 ∧ f (5 * k + 4) = cg y 28 k
def LR (y : s_T) (z : Nat → Nat → Int32) : Prop := LRp y (z 0) ∧ LRl y (z 1) ∧ LRm y (z 2) ∧ LRg y (z 3) ∧ LRq y (z 4) ∧ LRe y (z 5) ∧ LRn y (z 6)
/-- what holds of the states that the law reaches, beside q_inv -/
def LI (y : s_T) : Prop := ct y 2 = 5 ∧ ct y 4 = 3 ∧ ct y 10 ≤ 20 ∧ ct y 17 ≤ 12 ∧ ct y 22 ≤ 20 ∧ ct y 29 ≤ 12 ∧ (∀ k, k < 3 → q_ref (cg y 3 k) 2) ∧ q_ref (q_last y) 1000003 ∧
  (∀ k, k < ct y 22 → q_ref (cg y 20 k) (ct y 5 + 1) ∧ (cg y 21 k = 0 ∨ cg y 21 k = 1)) ∧
  (∀ k, k < ct y 29 → q_ref (cg y 26 k) (ct y 5 + 1) ∧ (cg y 25 k = 0 ∨ cg y 25 k = 1) ∧ (cg y 27 k = -1 ∨ q_ref (cg y 27 k) (ct y 5 + 1)))
section LRs
variable {y : s_T} {z : Nat → Nat → Int32}
theorem LR.s8 (h : LR y z) (k : Nat) (v : Int32) : LR (cs y 8 k v) (zs z 3 (3 * k + 1) (v)) := by
  obtain ⟨h0, h1, h2, h3, h4, h5, h6⟩ := h
  refine ⟨h0, h1, h2, fun j hj => ?_, h4, h5, h6⟩
  have q := h3 j hj
  refine ⟨?_, ?_, ?_⟩
  · rw [zs_get, if_pos rfl, if_neg (by omega)]
    exact q.1
  · rw [zs_get, if_pos rfl, cg_cs, if_pos rfl]
    by_cases hk : j = k
    · rw [if_pos (by omega), if_pos hk]
    · rw [if_neg (by omega), if_neg hk]
      exact q.2.1
  · rw [zs_get, if_pos rfl, if_neg (by omega)]
    exact q.2.2
theorem LR.s9 (h : LR y z) (k : Nat) (v : Int32) : LR (cs y 9 k v) (zs z 3 (3 * k + 2) (v)) := by
  obtain ⟨h0, h1, h2, h3, h4, h5, h6⟩ := h
  refine ⟨h0, h1, h2, fun j hj => ?_, h4, h5, h6⟩
  have q := h3 j hj
  refine ⟨?_, ?_, ?_⟩
  · rw [zs_get, if_pos rfl, if_neg (by omega)]
    exact q.1
  · rw [zs_get, if_pos rfl, if_neg (by omega)]
    exact q.2.1
  · rw [zs_get, if_pos rfl, cg_cs, if_pos rfl]
    by_cases hk : j = k
    · rw [if_pos (by omega), if_pos hk]
    · rw [if_neg (by omega), if_neg hk]
      exact q.2.2
theorem LR.s13 (h : LR y z) (k : Nat) (v : Int32) : LR (cs y 13 k v) (zs z 4 (5 * k + 1) (v)) := by
  obtain ⟨h0, h1, h2, h3, h4, h5, h6⟩ := h
  refine ⟨h0, h1, h2, h3, fun j hj => ?_, h5, h6⟩
  have q := h4 j hj
  refine ⟨?_, ?_, ?_, ?_, ?_⟩
  · rw [zs_get, if_pos rfl, if_neg (by omega)]
    exact q.1
  · rw [zs_get, if_pos rfl, cg_cs, if_pos rfl]
    by_cases hk : j = k
    · rw [if_pos (by omega), if_pos hk]
    · rw [if_neg (by omega), if_neg hk]
      exact q.2.1
  · rw [zs_get, if_pos rfl, if_neg (by omega)]
    exact q.2.2.1
  · rw [zs_get, if_pos rfl, if_neg (by omega)]
    exact q.2.2.2.1
  · rw [zs_get, if_pos rfl, if_neg (by omega)]
    exact q.2.2.2.2
theorem LR.s14 (h : LR y z) (k : Nat) (v : Int32) : LR (cs y 14 k v) (zs z 4 (5 * k + 2) (v)) := by
  obtain ⟨h0, h1, h2, h3, h4, h5, h6⟩ := h
  refine ⟨h0, h1, h2, h3, fun j hj => ?_, h5, h6⟩
  have q := h4 j hj
  refine ⟨?_, ?_, ?_, ?_, ?_⟩
  · rw [zs_get, if_pos rfl, if_neg (by omega)]
    exact q.1
  · rw [zs_get, if_pos rfl, if_neg (by omega)]
    exact q.2.1
  · rw [zs_get, if_pos rfl, cg_cs, if_pos rfl]
    by_cases hk : j = k
    · rw [if_pos (by omega), if_pos hk]
    · rw [if_neg (by omega), if_neg hk]
      exact q.2.2.1
  · rw [zs_get, if_pos rfl, if_neg (by omega)]
    exact q.2.2.2.1
  · rw [zs_get, if_pos rfl, if_neg (by omega)]
    exact q.2.2.2.2
theorem LR.s15 (h : LR y z) (k : Nat) (v : Int32) : LR (cs y 15 k v) (zs z 4 (5 * k + 3) (v)) := by
  obtain ⟨h0, h1, h2, h3, h4, h5, h6⟩ := h
  refine ⟨h0, h1, h2, h3, fun j hj => ?_, h5, h6⟩
  have q := h4 j hj
  refine ⟨?_, ?_, ?_, ?_, ?_⟩
  · rw [zs_get, if_pos rfl, if_neg (by omega)]
    exact q.1
  · rw [zs_get, if_pos rfl, if_neg (by omega)]
    exact q.2.1
  · rw [zs_get, if_pos rfl, if_neg (by omega)]
    exact q.2.2.1
  · rw [zs_get, if_pos rfl, cg_cs, if_pos rfl]
    by_cases hk : j = k
    · rw [if_pos (by omega), if_pos hk]
    · rw [if_neg (by omega), if_neg hk]
      exact q.2.2.2.1
  · rw [zs_get, if_pos rfl, if_neg (by omega)]
    exact q.2.2.2.2
theorem LR.s16 (h : LR y z) (k : Nat) (v : Int32) : LR (cs y 16 k v) (zs z 4 (5 * k + 4) (v + 1)) := by
  obtain ⟨h0, h1, h2, h3, h4, h5, h6⟩ := h
  refine ⟨h0, h1, h2, h3, fun j hj => ?_, h5, h6⟩
  have q := h4 j hj
  refine ⟨?_, ?_, ?_, ?_, ?_⟩
  · rw [zs_get, if_pos rfl, if_neg (by omega)]
    exact q.1
  · rw [zs_get, if_pos rfl, if_neg (by omega)]
    exact q.2.1
  · rw [zs_get, if_pos rfl, if_neg (by omega)]
    exact q.2.2.1
  · rw [zs_get, if_pos rfl, if_neg (by omega)]
    exact q.2.2.2.1
  · rw [zs_get, if_pos rfl, cg_cs, if_pos rfl]
    by_cases hk : j = k
    · rw [if_pos (by omega), if_pos hk]
    · rw [if_neg (by omega), if_neg hk]
      exact q.2.2.2.2
theorem LR.s20 (h : LR y z) (k : Nat) (v : Int32) : LR (cs y 20 k v) (zs z 5 (3 * k + 1) (v)) := by
  obtain ⟨h0, h1, h2, h3, h4, h5, h6⟩ := h
  refine ⟨h0, h1, h2, h3, h4, fun j hj => ?_, h6⟩
  have q := h5 j hj
  refine ⟨?_, ?_, ?_⟩
  · rw [zs_get, if_pos rfl, if_neg (by omega)]
    exact q.1
  · rw [zs_get, if_pos rfl, cg_cs, if_pos rfl]
    by_cases hk : j = k
    · rw [if_pos (by omega), if_pos hk]
    · rw [if_neg (by omega), if_neg hk]
      exact q.2.1
  · rw [zs_get, if_pos rfl, if_neg (by omega)]
    exact q.2.2
theorem LR.s21 (h : LR y z) (k : Nat) (v : Int32) : LR (cs y 21 k v) (zs z 5 (3 * k + 2) (v)) := by
  obtain ⟨h0, h1, h2, h3, h4, h5, h6⟩ := h
  refine ⟨h0, h1, h2, h3, h4, fun j hj => ?_, h6⟩
  have q := h5 j hj
  refine ⟨?_, ?_, ?_⟩
  · rw [zs_get, if_pos rfl, if_neg (by omega)]
    exact q.1
  · rw [zs_get, if_pos rfl, if_neg (by omega)]
    exact q.2.1
  · rw [zs_get, if_pos rfl, cg_cs, if_pos rfl]
    by_cases hk : j = k
    · rw [if_pos (by omega), if_pos hk]
    · rw [if_neg (by omega), if_neg hk]
      exact q.2.2
theorem LR.s25 (h : LR y z) (k : Nat) (v : Int32) : LR (cs y 25 k v) (zs z 6 (5 * k + 1) (v)) := by
  obtain ⟨h0, h1, h2, h3, h4, h5, h6⟩ := h
  refine ⟨h0, h1, h2, h3, h4, h5, fun j hj => ?_⟩
  have q := h6 j hj
  refine ⟨?_, ?_, ?_, ?_, ?_⟩
  · rw [zs_get, if_pos rfl, if_neg (by omega)]
    exact q.1
  · rw [zs_get, if_pos rfl, cg_cs, if_pos rfl]
    by_cases hk : j = k
    · rw [if_pos (by omega), if_pos hk]
    · rw [if_neg (by omega), if_neg hk]
      exact q.2.1
  · rw [zs_get, if_pos rfl, if_neg (by omega)]
    exact q.2.2.1
  · rw [zs_get, if_pos rfl, if_neg (by omega)]
    exact q.2.2.2.1
  · rw [zs_get, if_pos rfl, if_neg (by omega)]
    exact q.2.2.2.2
theorem LR.s26 (h : LR y z) (k : Nat) (v : Int32) : LR (cs y 26 k v) (zs z 6 (5 * k + 2) (v)) := by
  obtain ⟨h0, h1, h2, h3, h4, h5, h6⟩ := h
  refine ⟨h0, h1, h2, h3, h4, h5, fun j hj => ?_⟩
  have q := h6 j hj
  refine ⟨?_, ?_, ?_, ?_, ?_⟩
  · rw [zs_get, if_pos rfl, if_neg (by omega)]
    exact q.1
  · rw [zs_get, if_pos rfl, if_neg (by omega)]
    exact q.2.1
  · rw [zs_get, if_pos rfl, cg_cs, if_pos rfl]
    by_cases hk : j = k
    · rw [if_pos (by omega), if_pos hk]
    · rw [if_neg (by omega), if_neg hk]
      exact q.2.2.1
  · rw [zs_get, if_pos rfl, if_neg (by omega)]
    exact q.2.2.2.1
  · rw [zs_get, if_pos rfl, if_neg (by omega)]
    exact q.2.2.2.2
theorem LR.s27 (h : LR y z) (k : Nat) (v : Int32) : LR (cs y 27 k v) (zs z 6 (5 * k + 3) (v + 1)) := by
  obtain ⟨h0, h1, h2, h3, h4, h5, h6⟩ := h
  refine ⟨h0, h1, h2, h3, h4, h5, fun j hj => ?_⟩
  have q := h6 j hj
  refine ⟨?_, ?_, ?_, ?_, ?_⟩
  · rw [zs_get, if_pos rfl, if_neg (by omega)]
    exact q.1
  · rw [zs_get, if_pos rfl, if_neg (by omega)]
    exact q.2.1
  · rw [zs_get, if_pos rfl, if_neg (by omega)]
    exact q.2.2.1
  · rw [zs_get, if_pos rfl, cg_cs, if_pos rfl]
    by_cases hk : j = k
    · rw [if_pos (by omega), if_pos hk]
    · rw [if_neg (by omega), if_neg hk]
      exact q.2.2.2.1
  · rw [zs_get, if_pos rfl, if_neg (by omega)]
    exact q.2.2.2.2
theorem LR.s28 (h : LR y z) (k : Nat) (v : Int32) : LR (cs y 28 k v) (zs z 6 (5 * k + 4) (v)) := by
  obtain ⟨h0, h1, h2, h3, h4, h5, h6⟩ := h
  refine ⟨h0, h1, h2, h3, h4, h5, fun j hj => ?_⟩
  have q := h6 j hj
  refine ⟨?_, ?_, ?_, ?_, ?_⟩
  · rw [zs_get, if_pos rfl, if_neg (by omega)]
    exact q.1
  · rw [zs_get, if_pos rfl, if_neg (by omega)]
    exact q.2.1
  · rw [zs_get, if_pos rfl, if_neg (by omega)]
    exact q.2.2.1
  · rw [zs_get, if_pos rfl, if_neg (by omega)]
    exact q.2.2.2.1
  · rw [zs_get, if_pos rfl, cg_cs, if_pos rfl]
    by_cases hk : j = k
    · rw [if_pos (by omega), if_pos hk]
    · rw [if_neg (by omega), if_neg hk]
      exact q.2.2.2.2
theorem LR.write (h : LR y z) (kd p m : Int32) : LR (q_write y kd p m) (zs (zs z 2 8 (q_seal y kd p m)) 2 7 (nI (ct y 32 + 1))) := by
  obtain ⟨h0, h1, ⟨a0, a1, a2, a3, a4, a5, a6, a7, a8⟩, h3, h4, h5, h6⟩ := h
  refine ⟨h0, h1, ⟨a0, a1, a2, a3, a4, a5, a6, rfl, ?_⟩, h3, h4, h5, h6⟩
  rw [q_last_write]
  rfl
theorem q_rem_nI {a d : Nat} (ha : a < 2 ^ 31) (h0 : 0 < d) (hd : d < 2 ^ 31) : q_rem (nI a) (nI d) = nI (a % d) := pk_rem ha h0 hd
theorem q_seal_nI {s k p m : Nat} (hs : q_last y = nI s) (h1 : s < 1000003) (h2 : k ≤ 8) (h3 : p < 12) (h4 : m < 8) (h5 : ct y 5 ≤ 100000) : q_seal y (nI k) (nI p) (nI m) = nI ((31 * s + k + 10 * p + 200 * m + 2000 * ct y 5) % 1000003) := by
  unfold q_seal
  rw [hs]
  have e : (31 * nI s + nI k + 10 * nI p + 200 * nI m + 2000 * q_now y : Int32) = nI (31 * s + k + 10 * p + 200 * m + 2000 * ct y 5) := by
    show (nI 31 * nI s + nI k + nI 10 * nI p + nI 200 * nI m + nI 2000 * nI (ct y 5) : Int32) = _
    rw [pk_mul, pk_mul, pk_mul, pk_mul, nI_add, nI_add, nI_add, nI_add]
  rw [e]
  exact q_rem_nI (by omega) (by decide) (by decide)
/-- the record of y stands at the beginning of the record of x -/
def q_ext (y x : s_T) : Prop := ct y 32 ≤ ct x 32 ∧ ∀ i, i < ct y 32 → cg x 30 i = cg y 30 i ∧ cg x 31 i = cg y 31 i
theorem q_ext.rf (y : s_T) : q_ext y y := ⟨Nat.le_refl _, fun _ _ => ⟨rfl, rfl⟩⟩
theorem q_ext.tr {a b c : s_T} (h1 : q_ext a b) (h2 : q_ext b c) : q_ext a c := ⟨Nat.le_trans h1.1 h2.1, fun i hi => ⟨((h2.2 i (Nat.lt_of_lt_of_le hi h1.1)).1).trans (h1.2 i hi).1, ((h2.2 i (Nat.lt_of_lt_of_le hi h1.1)).2).trans (h1.2 i hi).2⟩⟩
/-- states with one record -/
def q_rec (a b : s_T) : Prop := ct a 32 = ct b 32 ∧ cg a 30 = cg b 30 ∧ cg a 31 = cg b 31
theorem q_rec.ext {a b : s_T} (h : q_rec a b) : q_ext a b := ⟨Nat.le_of_eq h.1, fun i _ => ⟨(congrFun h.2.1 i).symm, (congrFun h.2.2 i).symm⟩⟩
theorem q_ext_write (y : s_T) (kd p m : Int32) : q_ext y (q_write y kd p m) := by
  refine ⟨Nat.le_succ _, fun i hi => ?_⟩
  unfold q_write
  rw [cg_ss, cg_ss, cg_cs, if_neg (by decide), cg_cs, if_pos rfl, if_neg (by omega), cg_cs, if_pos rfl, if_neg (by omega), cg_cs, if_neg (by decide)]
  exact ⟨rfl, rfl⟩
theorem q_ext_shut (y : s_T) (k : Nat) : q_ext y (q_shut y k) := (q_rec.ext (a := y) (b := cs (cs y 25 k 0) 27 k (-1)) ⟨rfl, rfl, rfl⟩).tr (q_ext_write _ _ _ _)
theorem q_ext_close (y : s_T) (a : Int32) (k : Nat) : ∀ d, q_ext (q_close y a k).1 (q_close y a (k + d)).1
  | 0 => q_ext.rf _
  | d + 1 => by
    have ih := q_ext_close y a k d
    show q_ext (q_close y a k).1 (q_close y a (k + d + 1)).1
    by_cases hq : q_end1 (q_close y a (k + d)).1 a (k + d) = true
    · rw [q_close_t hq]
      exact ih.tr (q_ext_shut _ _)
    · rw [q_close_f (Bool.eq_false_iff.mpr hq)]
      exact ih
theorem q_ext_closes (y : s_T) (a : Int32) {k : Nat} (hk : k ≤ ct y 29) : q_ext (q_close y a k).1 (q_closes y a).1 := by
  have h := q_ext_close y a k (ct y 29 - k)
  rw [show k + (ct y 29 - k) = ct y 29 by omega] at h
  exact h
/-- the last step of a written state, as a later record has it -/
theorem q_ext_at {x : s_T} {kd p m : Int32} (h : q_ext (q_write y kd p m) x) : ct y 32 < ct x 32 ∧ cg x 30 (ct y 32) = kd ∧ cg x 31 (ct y 32) = q_seal y kd p m := by
  have h1 : ct y 32 + 1 ≤ ct x 32 := h.1
  obtain ⟨h2, h3⟩ := h.2 (ct y 32) (Nat.lt_succ_self _)
  refine ⟨h1, ?_, ?_⟩
  · rw [h2]
    unfold q_write
    rw [cg_ss, cg_cs, if_neg (by decide), cg_cs, if_pos rfl, if_pos rfl]
  · rw [h3]
    unfold q_write
    rw [cg_ss, cg_cs, if_pos rfl, if_pos rfl]
theorem q_seal_cs (y : s_T) (j i : Nat) (v kd p m : Int32) (h : j ≠ 31) : q_seal (cs y j i v) kd p m = q_seal y kd p m := by
  unfold q_seal q_last
  rw [ct_cs, cg_cs, if_neg (Ne.symm h)]
  rfl
/-- a code that is 0 throws nothing -/
theorem l_no {c : Int32} {E e1 e2 : String} (hc : c = 0) (h : (E = e1 ∧ c = 1) ∨ (E = e2 ∧ c = 2)) : False := by
  subst hc
  rcases h with ⟨-, h⟩ | ⟨-, h⟩ <;> exact absurd h (by decide)
theorem l_no1 {c : Int32} {E e1 : String} (hc : c = 0) (h : E = e1 ∧ c = 1) : False := by
  subst hc
  exact absurd h.2 (by decide)
theorem l_kind {x : s_T} {n : Nat} (h : n < ct x 32) (h2 : ct x 32 < 2 ^ 31) : f_kind_c x (nI n) = 0 := by
  unfold f_kind_c
  rw [q_ix_nI (by omega), decide_eq_true h]
  rfl
/-! pairs -/
theorem l_pr (a b : Nat) : 8 * nI a + nI b = nI (8 * a + b) := by
  show nI 8 * nI a + nI b = _
  rw [pk_mul, nI_add]
theorem l_pr_eq {a b u v : Nat} (ha : a < 12) (hb : b < 8) (hu : u < 12) (hv : v < 8) : (8 * nI a + nI b = nI (8 * u + v)) ↔ (nI a = nI u ∧ nI b = nI v) := by
  rw [l_pr, nI_eq (by omega) (by omega), nI_eq (by omega) (by omega), nI_eq (by omega) (by omega)]
  omega
theorem l_of_ref {v : Int32} {n : Nat} (h : q_ref v n) : ∃ u, u < n ∧ v = nI u := h
theorem q_inv.rt {N : Nat} (h : q_inv N y) {k : Nat} (hk : k < ct y 10) : (∃ u, u < ct y 2 ∧ cg y 6 k = nI u) ∧ ∃ v, v < ct y 4 ∧ cg y 7 k = nI v := h.2.2.1 k hk
theorem q_inv.le {N : Nat} (h : q_inv N y) : ct y 2 ≤ 12 ∧ ct y 4 ≤ 8 ∧ ct y 5 ≤ 100000 := ⟨h.1.1, h.1.2.1, h.1.2.2.1⟩
theorem l_hold1 {N : Nat} (hR : LR y z) (hV : q_inv N y) {u v j : Nat} {t : Int32} (hu : u < 12) (hv : v < 8) (hj : j < ct y 10) : q_hold1 y (nI u) (nI v) t j = (decide (z 3 (3 * j) = nI (8 * u + v)) && decide (z 3 (3 * j + 1) ≤ t) && decide (t < z 3 (3 * j + 2))) := by
  obtain ⟨⟨a, ha, ea⟩, ⟨b, hb, eb⟩⟩ := hV.rt hj
  obtain ⟨l2, l4, -⟩ := hV.le
  obtain ⟨r1, r2, r3⟩ := hR.2.2.2.1 j hj
  unfold q_hold1
  rw [r1, r2, r3, ea, eb, ← Bool.decide_and, decide_eq_decide.mpr (l_pr_eq (by omega) (by omega) hu hv).symm]
def h_from (y : s_T) (p m t : Int32) (n : Nat) : Nat → Bool
  | 0 => false
  | i + 1 => h_from y p m t n i || q_hold1 y p m t (n - 1 - i)
theorem q_hold_iff (p m t : Int32) : ∀ n, q_hold y p m t n = true ↔ ∃ k, k < n ∧ q_hold1 y p m t k = true
  | 0 => ⟨fun h => (by cases h), fun ⟨k, hk, _⟩ => absurd hk (Nat.not_lt_zero _)⟩
  | n + 1 => by
    rw [q_hold, Bool.or_eq_true, q_hold_iff p m t n]
    constructor
    · rintro (⟨k, hk, h⟩ | h)
      · exact ⟨k, by omega, h⟩
      · exact ⟨n, by omega, h⟩
    · rintro ⟨k, hk, h⟩
      by_cases hn : k = n
      · exact Or.inr (hn ▸ h)
      · exact Or.inl ⟨k, by omega, h⟩
theorem h_from_iff (p m t : Int32) (n : Nat) : ∀ i, i ≤ n → (h_from y p m t n i = true ↔ ∃ k, n - i ≤ k ∧ k < n ∧ q_hold1 y p m t k = true)
  | 0, _ => ⟨fun h => (by cases h), fun ⟨k, h1, h2, _⟩ => by omega⟩
  | i + 1, hi => by
    rw [h_from, Bool.or_eq_true, h_from_iff p m t n i (by omega)]
    constructor
    · rintro (⟨k, h1, h2, h⟩ | h)
      · exact ⟨k, by omega, h2, h⟩
      · exact ⟨n - 1 - i, by omega, by omega, h⟩
    · rintro ⟨k, h1, h2, h⟩
      by_cases hn : k = n - 1 - i
      · exact Or.inr (hn ▸ h)
      · exact Or.inl ⟨k, by omega, h2, h⟩
theorem h_from_all (p m t : Int32) (n : Nat) : h_from y p m t n n = q_hold y p m t n := by
  rw [Bool.eq_iff_iff, h_from_iff p m t n n (Nat.le_refl _), q_hold_iff]
  constructor
  · rintro ⟨k, -, h2, h⟩
    exact ⟨k, h2, h⟩
  · rintro ⟨k, h2, h⟩
    exact ⟨k, by omega, h2, h⟩
/-! counting down -/
theorem l_dn1 {n k : Nat} (h : k < n) : nI (n - k) - 1 = nI (n - 1 - k) := by
  rw [show n - k = n - 1 - k + 1 by omega]
  exact nI_pred _
theorem l_dn {n k : Nat} (h : k ≤ n) (hn : n < 2 ^ 31) : (nI (n - k) - 1 < 0) ↔ k = n := by
  by_cases hk : k = n
  · subst hk
    rw [Nat.sub_self]
    exact ⟨fun _ => rfl, fun _ => by decide⟩
  · rw [l_dn1 (by omega)]
    exact ⟨fun z => absurd z (nI_pos (by omega)), fun z => absurd z hk⟩
theorem l_dn3 {n k : Nat} (h : k < n) : nI (n - k) - 1 + Int32.ofInt (-1) = nI (n - (k + 1)) - 1 := by
  rw [l_dn1 h, show n - (k + 1) = n - 1 - k by omega]
  show nI (n - 1 - k) + -1 = _
  rw [Int32.sub_eq_add_neg]
theorem l_has {p m t : Nat} (hp : p < 2 ^ 31) (hm : m < 2 ^ 31) (ht : t < 2 ^ 31) (et : cg y 3 m = nI t) : q_has y (nI p) (nI m) = decide (cg y 1 (4 * p + t) ≠ 0) := by
  unfold q_has
  rw [pn_nI hp, pn_nI hm, et, pn_nI ht]
end LRs
