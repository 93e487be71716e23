/-! THE STATE: numbers and rows, by the places of the twin's fields; what each call does to it -/
abbrev s_T : Type := (Nat → Nat) × (Nat → Nat → Int32)
def ct (x : s_T) (k : Nat) : Nat := x.1 k
def cg (x : s_T) (k i : Nat) : Int32 := x.2 k i
def ss (x : s_T) (k n : Nat) : s_T := (va_up x.1 k n, x.2)
def cs (x : s_T) (k i : Nat) (v : Int32) : s_T := (x.1, va_up x.2 k (upd (x.2 k) i v))
def cf (x : s_T) (k : Nat) (f : Nat → Int32) : s_T := (x.1, va_up x.2 k f)
theorem ct_ss (x : s_T) (k n j : Nat) : ct (ss x k n) j = if j = k then n else ct x j := rfl
theorem ct_cs (x : s_T) (k i : Nat) (v : Int32) (j : Nat) : ct (cs x k i v) j = ct x j := rfl
theorem ct_cf (x : s_T) (k : Nat) (f : Nat → Int32) (j : Nat) : ct (cf x k f) j = ct x j := rfl
theorem cg_ss (x : s_T) (k n j i : Nat) : cg (ss x k n) j i = cg x j i := rfl
theorem cg_cs (x : s_T) (k i : Nat) (v : Int32) (j z : Nat) : cg (cs x k i v) j z = if j = k then (if z = i then v else cg x j z) else cg x j z := by
  unfold cg cs va_up
  by_cases h : j = k
  · subst h
    simp [upd]
  · simp [h]
theorem cg_cf (x : s_T) (k : Nat) (f : Nat → Int32) (j z : Nat) : cg (cf x k f) j z = if j = k then f z else cg x j z := by
  unfold cg cf va_up
  by_cases h : j = k
  · simp [h]
  · simp [h]
theorem s_ext {x y : s_T} (h1 : ∀ k, ct x k = ct y k) (h2 : ∀ k i, cg x k i = cg y k i) : x = y := Prod.ext (funext h1) (funext fun k => funext fun i => h2 k i)
def bI (b : Bool) : Int32 := if b then 1 else 0
theorem bI_t : bI true = 1 := rfl
theorem bI_f : bI false = 0 := rfl
theorem bI_0 {b : Bool} : bI b = 0 ↔ b = false := by cases b <;> decide
theorem bI_n {b : Bool} : ¬ bI b = 0 ↔ b = true := by cases b <;> decide
theorem bI_nar (b : Bool) : narrow .boolean (.int (bI b)) = .int (bI b) := by cases b <;> decide
theorem bI_vn (b : Bool) : vp_nar .boolean (bI b) = bI b := by cases b <;> decide
def q_in (v lo hi : Int32) : Bool := decide (lo ≤ v) && decide (v ≤ hi)
def q_ix (v : Int32) (n : Nat) : Bool := decide (¬ v < 0) && decide (v.toNatClampNeg < n)
theorem q_ix_iff {v : Int32} {n : Nat} (hn : n < 2 ^ 31) : q_ix v n = true ↔ ∃ j, j < n ∧ v = nI j := by
  unfold q_ix
  rw [Bool.and_eq_true, decide_eq_true_eq, decide_eq_true_eq]
  constructor
  · intro ⟨h1, h2⟩
    obtain ⟨j, hj, e⟩ := nI_of h1
    subst e
    rw [nI_clamp hj] at h2
    exact ⟨j, h2, rfl⟩
  · rintro ⟨j, hj, rfl⟩
    exact ⟨nI_pos (by omega), by rw [nI_clamp (by omega)]; exact hj⟩
theorem q_ix_nI {j n : Nat} (hj : j < 2 ^ 31) : q_ix (nI j) n = decide (j < n) := by
  unfold q_ix
  rw [nI_clamp hj, decide_eq_true (nI_pos hj), Bool.true_and]
def q_code (a b c : Bool) : Int32 := if a then (if b then (if c then 0 else 3) else 2) else 1
abbrev q_now (x : s_T) : Int32 := nI (ct x 5)
def pn (v : Int32) : Nat := v.toNatClampNeg
def q_hold1 (x : s_T) (p m t : Int32) (k : Nat) : Bool := decide (cg x 6 k = p) && decide (cg x 7 k = m) && decide (cg x 8 k ≤ t) && decide (t < cg x 9 k)
def q_hold (x : s_T) (p m t : Int32) : Nat → Bool
  | 0 => false
  | n + 1 => q_hold x p m t n || q_hold1 x p m t n
def q_endf (x : s_T) (p m : Int32) (n : Nat) : Nat → Int32 := fun k => if k < n ∧ q_hold1 x p m (q_now x) k = true then q_now x else cg x 9 k
def q_ends (x : s_T) (p m : Int32) : s_T := cf x 9 (q_endf x p m (ct x 10))
def q_deny1 (x : s_T) (p m : Int32) (k : Nat) : Bool := decide (cg x 11 k = p) && decide (cg x 12 k = m) && decide (cg x 15 k = 0)
def q_denyf (x : s_T) (p m : Int32) (n : Nat) : Nat → Int32 := fun k => if k < n ∧ q_deny1 x p m k = true then 2 else cg x 15 k
def q_denies (x : s_T) (p m : Int32) : s_T := cf x 15 (q_denyf x p m (ct x 17))
def q_over1 (x : s_T) (p : Int32) (k : Nat) : Bool := decide (cg x 18 k = p) && decide (cg x 21 k = 0) && decide (1440 ≤ q_now x - cg x 20 k)
def q_over (x : s_T) (p : Int32) : Nat → Int32
  | 0 => 0
  | n + 1 => q_over x p n + bI (q_over1 x p n)
def q_rem (a b : Int32) : Int32 := a - a / b * b
def q_last (x : s_T) : Int32 := if ct x 32 = 0 then 1 else cg x 31 (ct x 32 - 1)
def q_seal (x : s_T) (kd p m : Int32) : Int32 := q_rem (31 * q_last x + kd + 10 * p + 200 * m + 2000 * q_now x) 1000003
def q_write (x : s_T) (kd p m : Int32) : s_T := ss (cs (cs x 30 (ct x 32) kd) 31 (ct x 32) (q_seal x kd p m)) 32 (ct x 32 + 1)
def q_shut (x : s_T) (k : Nat) : s_T := q_write (cs (cs x 25 k 0) 27 k (-1)) 6 (cg x 23 k) (cg x 24 k)
def q_end1 (x : s_T) (also : Int32) (k : Nat) : Bool := decide (cg x 25 k ≠ 0) && (decide (nI k = also) || (decide (15 ≤ q_now x - cg x 26 k) || !q_hold x (cg x 23 k) (cg x 24 k) (q_now x) (ct x 10)))
def q_close (x : s_T) (also : Int32) : Nat → s_T × Int32
  | 0 => (x, 0)
  | k + 1 => if q_end1 (q_close x also k).1 also k then (q_shut (q_close x also k).1 k, (q_close x also k).2 + 1) else q_close x also k
def q_closes (x : s_T) (also : Int32) : s_T × Int32 := q_close x also (ct x 29)
def q_tick (x : s_T) : Nat → s_T × Int32
  | 0 => (x, 0)
  | j + 1 => ((q_closes (ss (q_tick x j).1 5 (ct (q_tick x j).1 5 + 1)) (-1)).1, (q_tick x j).2 + (q_closes (ss (q_tick x j).1 5 (ct (q_tick x j).1 5 + 1)) (-1)).2)
def q_lap1 (x : s_T) (k : Nat) : Bool := decide (cg x 15 k = 0) && decide (60 ≤ q_now x - cg x 14 k)
def q_lapf (x : s_T) (n : Nat) : Nat → Int32 := fun k => if k < n ∧ q_lap1 x k = true then 3 else cg x 15 k
def q_lapse (x : s_T) : s_T := cf x 15 (q_lapf x (ct x 17))
def q_has (x : s_T) (p m : Int32) : Bool := decide (cg x 1 (4 * pn p + pn (cg x 3 (pn m))) ≠ 0)
def q_both (x : s_T) (p m : Int32) : Bool := q_ix p (ct x 2) && q_ix m (ct x 4)
def q_can (x : s_T) (p m : Int32) : Bool := q_both x p m && (q_has x p m && decide (q_over x p (ct x 22) = 0))
def q_jud (x : s_T) (a b : Int32) : Bool := q_ix a (ct x 17) && (q_ix b (ct x 2) && (decide (cg x 15 (pn a) = 0) && (decide (cg x 0 (pn b) ≠ cg x 0 (pn (cg x 11 (pn a)))) && q_has x b (cg x 12 (pn a)))))
def q_grant (x : s_T) (p m t : Int32) : s_T := ss (cs (cs (cs (cs x 6 (ct x 10) p) 7 (ct x 10) m) 8 (ct x 10) (q_now x)) 9 (ct x 10) (q_now x + t)) 10 (ct x 10 + 1)
def q_strip (x : s_T) (p l : Int32) : Nat → s_T
  | 0 => x
  | k + 1 => if cg (q_strip x p l k) 3 k = l then q_denies (q_ends (q_strip x p l k) p (nI k)) p (nI k) else q_strip x p l k
def q_opn (x : s_T) : Nat → Nat
  | 0 => 0
  | n + 1 => q_opn x n + (if cg x 25 n = 0 then 0 else 1)
/-! each call: its code (0: it returns), its answer, the state behind it -/
def f_addPerson_c (x : s_T) (t : Int32) : Int32 := q_code (q_in t 0 3) (decide (ct x 2 < 12)) true
def f_addPerson_s (x : s_T) (t : Int32) : s_T := ss (cs x 0 (ct x 2) t) 2 (ct x 2 + 1)
def f_addMachine_c (x : s_T) (t : Int32) : Int32 := q_code (q_in t 0 3) (decide (ct x 4 < 8)) true
def f_addMachine_s (x : s_T) (t : Int32) : s_T := ss (cs x 3 (ct x 4) t) 4 (ct x 4 + 1)
def f_setLabel_c (x : s_T) (p l : Int32) : Int32 := q_code (q_ix p (ct x 2)) (q_in l 0 3) true
def f_setLabel_s (x : s_T) (p l : Int32) (h : Bool) : s_T × Int32 := if h then (cs x 1 (4 * pn p + pn l) 1, 0) else q_closes (q_strip (cs x 1 (4 * pn p + pn l) 0) p l (ct x 4)) (-1)
def f_takeAway_c (x : s_T) (p m : Int32) : Int32 := q_code (q_both x p m) true true
def f_takeAway_s (x : s_T) (p m : Int32) : s_T × Int32 := q_closes (q_denies (q_ends x p m) p m) (-1)
def f_ask_c (x : s_T) (p m t : Int32) : Int32 := q_code (q_both x p m) (q_in t 1 600) (q_can x p m)
def f_ask_s (x : s_T) (p m t : Int32) : s_T := q_write (ss (cs (cs (cs (cs (cs (cs x 11 (ct x 17) p) 12 (ct x 17) m) 13 (ct x 17) t) 14 (ct x 17) (q_now x)) 15 (ct x 17) 0) 16 (ct x 17) (-1)) 17 (ct x 17 + 1)) 0 p m
def f_approve_c (x : s_T) (a b : Int32) : Int32 := q_code (q_ix a (ct x 17) && q_ix b (ct x 2)) (q_jud x a b && decide (cg x 16 (pn a) ≠ b)) true
def f_approve_s (x : s_T) (a b : Int32) : s_T × Int32 := if cg x 16 (pn a) = -1 then (cs (q_write x 1 b (cg x 12 (pn a))) 16 (pn a) b, 0) else (q_grant (cs (q_write x 1 b (cg x 12 (pn a))) 15 (pn a) 1) (cg x 11 (pn a)) (cg x 12 (pn a)) (cg x 13 (pn a)), 1)
def f_deny_c (x : s_T) (a b : Int32) : Int32 := q_code (q_ix a (ct x 17) && q_ix b (ct x 2)) (q_jud x a b) true
def f_deny_s (x : s_T) (a b : Int32) : s_T := q_write (cs x 15 (pn a) 2) 2 b (cg x 12 (pn a))
def f_askState_c (x : s_T) (a : Int32) : Int32 := q_code (q_ix a (ct x 17)) true true
def f_enter_c (x : s_T) (p m : Int32) : Int32 := q_code (q_both x p m) (q_can x p m) true
def f_enter_s (x : s_T) (p m : Int32) : s_T := q_write (q_grant (ss (cs (cs (cs x 18 (ct x 22) p) 19 (ct x 22) m) 20 (ct x 22) (q_now x)) 22 (ct x 22 + 1)) p m 30) 3 p m
def f_lookAt_c (x : s_T) (a b : Int32) : Int32 := q_code (q_ix a (ct x 22) && q_ix b (ct x 2)) ((q_ix a (ct x 22) && q_ix b (ct x 2)) && (decide (cg x 21 (pn a) = 0) && decide (cg x 0 (pn b) ≠ cg x 0 (pn (cg x 18 (pn a)))))) true
def f_lookAt_s (x : s_T) (a b : Int32) : s_T := q_write (cs x 21 (pn a) 1) 4 b (cg x 19 (pn a))
def f_overdue_c (x : s_T) (p : Int32) : Int32 := q_code (q_ix p (ct x 2)) true true
def f_couldEnter_c (x : s_T) (p m t : Int32) : Int32 := q_code (q_both x p m) (q_in t 0 100000) true
def f_open_c (x : s_T) (p m : Int32) : Int32 := q_code (q_both x p m) (q_both x p m && q_hold x p m (q_now x) (ct x 10)) true
def f_open_s (x : s_T) (p m : Int32) : s_T := q_write (ss (cs (cs (cs (cs (cs x 23 (ct x 29) p) 24 (ct x 29) m) 25 (ct x 29) 1) 26 (ct x 29) (q_now x)) 27 (ct x 29) (-1)) 29 (ct x 29 + 1)) 5 p m
def f_type_c (x : s_T) (a k : Int32) : Int32 := q_code (q_ix a (ct x 29)) (q_in k 0 2) (q_ix a (ct x 29) && (decide (cg x 25 (pn a) ≠ 0) && decide (cg x 27 (pn a) = -1)))
def f_type_y (x : s_T) (a : Int32) : s_T := q_write (cs x 26 (pn a) (q_now x)) 7 (cg x 23 (pn a)) (cg x 24 (pn a))
def f_type_s (x : s_T) (a k : Int32) : s_T := if k = 0 then cs (f_type_y x a) 28 (pn a) (cg x 28 (pn a) + 1) else if k = 1 then cs (f_type_y x a) 27 (pn a) (q_now x) else (q_closes (q_ends (f_type_y x a) (cg x 23 (pn a)) (cg x 24 (pn a))) a).1
def f_letThrough_c (x : s_T) (a b : Int32) : Int32 := q_code (q_ix a (ct x 29) && q_ix b (ct x 2)) ((q_ix a (ct x 29) && q_ix b (ct x 2)) && (decide (cg x 25 (pn a) ≠ 0) && (decide (cg x 27 (pn a) ≠ -1) && (decide (cg x 0 (pn b) ≠ cg x 0 (pn (cg x 23 (pn a)))) && q_has x b (cg x 24 (pn a)))))) true
def f_letThrough_s (x : s_T) (a b : Int32) : s_T := q_write (cs (cs x 27 (pn a) (-1)) 28 (pn a) (cg x 28 (pn a) + 1)) 8 b (cg x 24 (pn a))
def f_close_c (x : s_T) (a : Int32) : Int32 := q_code (q_ix a (ct x 29)) (q_ix a (ct x 29) && decide (cg x 25 (pn a) ≠ 0)) true
def f_isOpen_c (x : s_T) (a : Int32) : Int32 := q_code (q_ix a (ct x 29)) true true
def f_pass_c (x : s_T) (t : Int32) : Int32 := q_code (q_in t 1 3000) (q_in t 1 3000 && decide (q_now x + t ≤ 100000)) true
def f_pass_s (x : s_T) (t : Int32) : s_T := q_lapse (q_tick x (pn t)).1
def f_kind_c (x : s_T) (a : Int32) : Int32 := q_code (q_ix a (ct x 32)) true true
/-! what stays so: bounds, and rows that name people and machines that there are -/
def q_ref (v : Int32) (n : Nat) : Prop := ∃ j : Nat, j < n ∧ v = nI j
def q_inv (N : Nat) (x : s_T) : Prop :=
  (ct x 2 ≤ 12 ∧ ct x 4 ≤ 8 ∧ ct x 5 ≤ 100000 ∧ ct x 10 ≤ N ∧ ct x 17 ≤ N ∧ ct x 22 ≤ N ∧ ct x 29 ≤ N ∧ ct x 32 + q_opn x (ct x 29) ≤ 2 * N) ∧
  (∀ k, k < ct x 4 → q_ref (cg x 3 k) 4) ∧
  (∀ k, k < ct x 10 → q_ref (cg x 6 k) (ct x 2) ∧ q_ref (cg x 7 k) (ct x 4)) ∧
  (∀ k, k < ct x 17 → q_ref (cg x 11 k) (ct x 2) ∧ q_ref (cg x 12 k) (ct x 4) ∧ q_ref (cg x 14 k) (ct x 5 + 1) ∧ (cg x 16 k = -1 ∨ q_ref (cg x 16 k) (ct x 2))) ∧
  (∀ k, k < ct x 22 → q_ref (cg x 18 k) (ct x 2) ∧ q_ref (cg x 19 k) (ct x 4)) ∧
  (∀ k, k < ct x 29 → q_ref (cg x 23 k) (ct x 2) ∧ q_ref (cg x 24 k) (ct x 4)) ∧
  (∀ k, ct x 22 ≤ k → cg x 21 k = 0) ∧ (∀ k, ct x 29 ≤ k → cg x 28 k = 0) ∧ (∀ k, cg x 1 k = 0 ∨ cg x 1 k = 1)
