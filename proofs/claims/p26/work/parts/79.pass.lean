section L79
variable {x y w : s_T} {z : Nat → Nat → Int32}
/-! minutes that pass -/
theorem LR.clk (h : LR y z) (n : Nat) : LR (ss y 5 n) (zs z 2 2 (nI n)) := by
  obtain ⟨h0, h1, ⟨a0, a1, a2, a3, a4, a5, a6, a7, a8⟩, h3, h4, h5, h6⟩ := h
  exact ⟨h0, h1, ⟨a0, a1, rfl, a3, a4, a5, a6, a7, a8⟩, h3, h4, h5, h6⟩
/-- the law's rows see no more of a state -/
theorem LR.congr {y' : s_T} (h : LR y z) (hc : ∀ k, ct y' k = ct y k) (hg : ∀ k, k ≠ 25 → cg y' k = cg y k) (h25 : ∀ j, j < ct y 29 → cg y' 25 j = cg y 25 j) : LR y' z := by
  obtain ⟨h0, h1, ⟨a0, a1, a2, a3, a4, a5, a6, a7, a8⟩, h3, h4, h5, h6⟩ := h
  refine ⟨?_, ?_, ⟨?_, ?_, ?_, ?_, ?_, ?_, ?_, ?_, ?_⟩, ?_, ?_, ?_, ?_⟩
  · intro k hk
    rw [hg 0 (by decide), hg 1 (by decide)]
    exact h0 k hk
  · intro k hk
    rw [hg 3 (by decide)]
    exact h1 k hk
  · rw [hc]; exact a0
  · rw [hc]; exact a1
  · rw [hc]; exact a2
  · rw [hc]; exact a3
  · rw [hc]; exact a4
  · rw [hc]; exact a5
  · rw [hc]; exact a6
  · rw [hc]; exact a7
  · rw [a8]
    unfold q_last
    rw [hc, hg 31 (by decide)]
  · intro k hk
    rw [hc] at hk
    rw [hg 6 (by decide), hg 7 (by decide), hg 8 (by decide), hg 9 (by decide)]
    exact h3 k hk
  · intro k hk
    rw [hc] at hk
    rw [hg 11 (by decide), hg 12 (by decide), hg 13 (by decide), hg 14 (by decide), hg 15 (by decide), hg 16 (by decide)]
    exact h4 k hk
  · intro k hk
    rw [hc] at hk
    rw [hg 18 (by decide), hg 19 (by decide), hg 20 (by decide), hg 21 (by decide)]
    exact h5 k hk
  · intro k hk
    rw [hc] at hk
    rw [hg 23 (by decide), hg 24 (by decide), h25 k hk, hg 26 (by decide), hg 27 (by decide), hg 28 (by decide)]
    exact h6 k hk
/-- the class's state as minute k + 1 begins, and with i sessions looked at; does the next one go -/
def pY (x : s_T) (k : Nat) : s_T := ss (q_tick x k).1 5 (ct (q_tick x k).1 5 + 1)
def pW (x : s_T) (k i : Nat) : s_T := (q_close (pY x k) (-1) i).1
def pD (x : s_T) (k i : Nat) : Bool := q_end1 (pW x k i) (-1) i
theorem pY_29 (x : s_T) (k : Nat) : ct (pY x k) 29 = ct x 29 := q_tick_ct x (by decide) (by decide) k
theorem pW_0 (x : s_T) (k : Nat) : pW x k 0 = pY x k := rfl
theorem pW_t {k i : Nat} (h : pD x k i = true) : pW x k (i + 1) = q_shut (pW x k i) i := congrArg Prod.fst (q_close_t h)
theorem pW_f {k i : Nat} (h : pD x k i = false) : pW x k (i + 1) = pW x k i := congrArg Prod.fst (q_close_f h)
theorem pW_end (x : s_T) (k : Nat) : pW x k (ct x 29) = (q_tick x (k + 1)).1 := by
  show _ = (q_close (pY x k) (-1) (ct (pY x k) 29)).1
  rw [pY_29]
  rfl
theorem pT_end (x : s_T) (k : Nat) : (q_tick x k).2 + (q_close (pY x k) (-1) (ct x 29)).2 = (q_tick x (k + 1)).2 := by
  show _ = (q_tick x k).2 + (q_close (pY x k) (-1) (ct (pY x k) 29)).2
  rw [pY_29]
/-- the law's state: what the class's is, but a closed session bears its minute, and the record waits -/
def pI1 (x y : s_T) (k : Nat) : Nat → s_T
  | 0 => y
  | i + 1 => if pD x k i = true then cs (cs (pI1 x y k i) 25 i (nI (2 + (ct x 5 + k + 1)))) 27 i (-1) else pI1 x y k i
def pO (x : s_T) : Nat → s_T
  | 0 => x
  | k + 1 => pI1 x (ss (pO x k) 5 (ct x 5 + k + 1)) k (ct x 29)
theorem pI1_t {k i : Nat} (h : pD x k i = true) : pI1 x y k (i + 1) = cs (cs (pI1 x y k i) 25 i (nI (2 + (ct x 5 + k + 1)))) 27 i (-1) := by rw [pI1, if_pos h]
theorem pI1_f {k i : Nat} (h : pD x k i = false) : pI1 x y k (i + 1) = pI1 x y k i := by rw [pI1, if_neg (by rw [h]; decide)]
/-- is session j closed by a minute before the (k, i)-th look -/
def pC (x : s_T) (k i j : Nat) : Prop := (∃ k', k' < k ∧ pD x k' j = true) ∨ (j < i ∧ pD x k j = true)
/-- y, the law's, beside w, the class's -/
def J (x y w : s_T) (k i t : Nat) : Prop := ct y 5 = t ∧ ct w 5 = t ∧ (∀ f, f ≠ 5 → ct y f = ct x f) ∧ (∀ f, f ≠ 5 → f ≠ 32 → ct w f = ct x f) ∧ (∀ f, f ≠ 25 → f ≠ 27 → cg y f = cg x f) ∧ (∀ f, f ≠ 25 → f ≠ 27 → f ≠ 30 → f ≠ 31 → cg w f = cg x f) ∧ cg y 27 = cg w 27 ∧
  ∀ j, j < ct x 29 → (cg w 25 j = 1 ∧ cg y 25 j = 1) ∨ (cg w 25 j = 0 ∧ cg y 25 j = 0 ∧ ¬ pC x k i j) ∨ (cg w 25 j = 0 ∧ ∃ k', (k' < k ∨ (k' = k ∧ j < i)) ∧ pD x k' j = true ∧ cg y 25 j = nI (2 + (ct x 5 + k' + 1)))
theorem pC_step {k i j : Nat} (h : ¬ pC x k i j) (hD : ¬ (j = i ∧ pD x k i = true)) : ¬ pC x k (i + 1) j := by
  rintro (h1 | ⟨h1, h2⟩)
  · exact h (Or.inl h1)
  · by_cases hj : j = i
    · subst hj
      exact hD ⟨rfl, h2⟩
    · exact h (Or.inr ⟨by omega, h2⟩)
theorem J_step {k i t : Nat} (h : J x y w k i t) (hw : w = pW x k i) (hi : i < ct x 29) (ht : t = ct x 5 + k + 1) : J x (if pD x k i = true then cs (cs y 25 i (nI (2 + (ct x 5 + k + 1)))) 27 i (-1) else y) (if pD x k i = true then q_shut w i else w) k (i + 1) t := by
  obtain ⟨a1, a2, a3, a4, a5, a6, a7, a8⟩ := h
  by_cases hD : pD x k i = true
  · rw [if_pos hD, if_pos hD]
    have hal := q_al_shut w i
    refine ⟨a1, ?_, a3, fun f hf hf2 => ?_, fun f hf hf2 => ?_, fun f hf hf2 hf3 hf4 => ?_, ?_, fun j hj => ?_⟩
    · rw [hal.1 5 (by decide)]; exact a2
    · rw [hal.1 f hf2]; exact a4 f hf hf2
    · rw [← a5 f hf hf2]
      funext q
      rw [cg_cs, if_neg hf2, cg_cs, if_neg hf]
    · rw [← a6 f hf hf2 hf3 hf4]
      exact funext fun q => hal.2 f hf hf2 hf3 hf4 q
    · funext q
      have e27 : cg (q_shut w i) 27 q = if q = i then -1 else cg w 27 q := by
        unfold q_shut q_write
        rw [cg_ss, cg_cs, if_neg (by decide), cg_cs, if_neg (by decide), cg_cs, if_pos rfl]
        rfl
      rw [e27, cg_cs, if_pos rfl]
      show (if q = i then -1 else cg y 27 q) = _
      rw [a7]
    · rw [q_shut_25]
      have ey : cg (cs (cs y 25 i (nI (2 + (ct x 5 + k + 1)))) 27 i (-1)) 25 j = if j = i then nI (2 + (ct x 5 + k + 1)) else cg y 25 j := by
        rw [cg_cs, if_neg (by decide), cg_cs, if_pos rfl]
      rw [ey]
      by_cases hji : j = i
      · subst hji
        rw [if_pos rfl, if_pos rfl]
        exact Or.inr (Or.inr ⟨rfl, k, Or.inr ⟨rfl, Nat.lt_succ_self _⟩, hD, rfl⟩)
      · rw [if_neg hji, if_neg hji]
        rcases a8 j hj with q | ⟨q1, q2, q3⟩ | ⟨q1, k', q2, q3, q4⟩
        · exact Or.inl q
        · exact Or.inr (Or.inl ⟨q1, q2, pC_step q3 (fun z => hji z.1)⟩)
        · exact Or.inr (Or.inr ⟨q1, k', q2.imp id (fun z => ⟨z.1, by omega⟩), q3, q4⟩)
  · rw [if_neg hD, if_neg hD]
    refine ⟨a1, a2, a3, a4, a5, a6, a7, fun j hj => ?_⟩
    rcases a8 j hj with q | ⟨q1, q2, q3⟩ | ⟨q1, k', q2, q3, q4⟩
    · exact Or.inl q
    · exact Or.inr (Or.inl ⟨q1, q2, pC_step q3 (fun z => hD z.2)⟩)
    · exact Or.inr (Or.inr ⟨q1, k', q2.imp id (fun z => ⟨z.1, by omega⟩), q3, q4⟩)
theorem J_inner {k t : Nat} (h : J x y (pY x k) k 0 t) (ht : t = ct x 5 + k + 1) : ∀ i, i ≤ ct x 29 → J x (pI1 x y k i) (pW x k i) k i t
  | 0, _ => h
  | i + 1, hi => by
    have ih := J_inner h ht i (by omega)
    have h1 := J_step ih rfl (by omega) ht
    by_cases hD : pD x k i = true
    · rw [if_pos hD, if_pos hD] at h1
      rw [pI1_t hD, pW_t hD]
      exact h1
    · rw [if_neg hD, if_neg hD] at h1
      rw [pI1_f (Bool.eq_false_iff.mpr hD), pW_f (Bool.eq_false_iff.mpr hD)]
      exact h1
theorem pC_next {k j : Nat} (hj : j < ct x 29) : pC x (k + 1) 0 j ↔ pC x k (ct x 29) j := by
  constructor
  · rintro (⟨k', h1, h2⟩ | ⟨h1, -⟩)
    · by_cases hk : k' = k
      · subst hk
        exact Or.inr ⟨hj, h2⟩
      · exact Or.inl ⟨k', by omega, h2⟩
    · exact absurd h1 (Nat.not_lt_zero _)
  · rintro (⟨k', h1, h2⟩ | ⟨-, h2⟩)
    · exact Or.inl ⟨k', by omega, h2⟩
    · exact Or.inl ⟨k, Nat.lt_succ_self _, h2⟩
theorem J_clock {k t : Nat} (h : J x y w k 0 t) : J x (ss y 5 (t + 1)) (ss w 5 (ct w 5 + 1)) k 0 (t + 1) := by
  obtain ⟨a1, a2, a3, a4, a5, a6, a7, a8⟩ := h
  refine ⟨rfl, by rw [← a2]; rfl, fun f hf => ?_, fun f hf hf2 => ?_, a5, a6, a7, a8⟩
  · rw [ct_ss, if_neg hf]; exact a3 f hf
  · rw [ct_ss, if_neg hf]; exact a4 f hf hf2
theorem J_outer (h25 : ∀ j, j < ct x 29 → cg x 25 j = 0 ∨ cg x 25 j = 1) : ∀ k, J x (pO x k) (q_tick x k).1 k 0 (ct x 5 + k)
  | 0 => by
    refine ⟨rfl, rfl, fun _ _ => rfl, fun _ _ _ => rfl, fun _ _ _ => rfl, fun _ _ _ _ _ => rfl, rfl, fun j hj => ?_⟩
    rcases h25 j hj with h | h
    · refine Or.inr (Or.inl ⟨h, h, ?_⟩)
      rintro (⟨k', h1, -⟩ | ⟨h1, -⟩) <;> exact absurd h1 (Nat.not_lt_zero _)
    · exact Or.inl ⟨h, h⟩
  | k + 1 => by
    have ih := J_clock (J_outer h25 k)
    have h1 := J_inner (y := ss (pO x k) 5 (ct x 5 + k + 1)) ih rfl (ct x 29) (Nat.le_refl _)
    rw [pW_end] at h1
    obtain ⟨a1, a2, a3, a4, a5, a6, a7, a8⟩ := h1
    refine ⟨a1, a2, a3, a4, a5, a6, a7, fun j hj => ?_⟩
    rcases a8 j hj with q | ⟨q1, q2, q3⟩ | ⟨q1, k', q2, q3, q4⟩
    · exact Or.inl q
    · exact Or.inr (Or.inl ⟨q1, q2, fun z => q3 ((pC_next hj).mp z)⟩)
    · exact Or.inr (Or.inr ⟨q1, k', Or.inl (by omega), q3, q4⟩)
theorem J_in (h25 : ∀ j, j < ct x 29 → cg x 25 j = 0 ∨ cg x 25 j = 1) (k i : Nat) (hi : i ≤ ct x 29) : J x (pI1 x (ss (pO x k) 5 (ct x 5 + k + 1)) k i) (pW x k i) k i (ct x 5 + k + 1) :=
  J_inner (J_clock (J_outer h25 k)) rfl i hi
theorem q_hold1_congr {a b : s_T} (h6 : cg a 6 = cg b 6) (h7 : cg a 7 = cg b 7) (h8 : cg a 8 = cg b 8) (h9 : cg a 9 = cg b 9) (p m t : Int32) (k : Nat) : q_hold1 a p m t k = q_hold1 b p m t k := by
  unfold q_hold1
  rw [h6, h7, h8, h9]
theorem q_hold_congr {a b : s_T} (h6 : cg a 6 = cg b 6) (h7 : cg a 7 = cg b 7) (h8 : cg a 8 = cg b 8) (h9 : cg a 9 = cg b 9) (p m t : Int32) : ∀ n, q_hold a p m t n = q_hold b p m t n
  | 0 => rfl
  | n + 1 => by rw [q_hold, q_hold, q_hold_congr h6 h7 h8 h9 p m t n, q_hold1_congr h6 h7 h8 h9]
/-- what the law tests is what the class tests -/
theorem pD_eq {k i t u v t1 : Nat} (h : J x y (pW x k i) k i t) (hi : i < ct x 29) (hi2 : i < 2 ^ 30) (ht : t ≤ 100000) (eu : cg x 23 i = nI u) (ev : cg x 24 i = nI v) (et : cg x 26 i = nI t1) (ht1 : t1 ≤ t) (h5 : ct x 5 + k + 1 = t) :
    pD x k i = (decide (cg y 25 i = 1) && (decide (t1 + 15 ≤ t) || !q_hold y (nI u) (nI v) (nI t) (ct y 10))) := by
  obtain ⟨a1, a2, a3, a4, a5, a6, a7, a8⟩ := h
  have e15 : (15 ≤ q_now (pW x k i) - nI t1) ↔ t1 + 15 ≤ t := by
    show (nI 15 ≤ nI (ct (pW x k i) 5) - nI t1) ↔ _
    rw [a2]
    exact l_ge (by decide) ht1 ht
  have hm : ¬ nI i = -1 := fun z => by
    have := nI_pos (n := i) (by omega)
    rw [z] at this
    exact this (by decide)
  have eh : q_hold (pW x k i) (nI u) (nI v) (q_now (pW x k i)) (ct (pW x k i) 10) = q_hold y (nI u) (nI v) (nI t) (ct y 10) := by
    rw [show q_now (pW x k i) = nI t from congrArg nI a2, a4 10 (by decide) (by decide), a3 10 (by decide)]
    refine q_hold_congr ?_ ?_ ?_ ?_ _ _ _ _
    · rw [a6 6 (by decide) (by decide) (by decide) (by decide), a5 6 (by decide) (by decide)]
    · rw [a6 7 (by decide) (by decide) (by decide) (by decide), a5 7 (by decide) (by decide)]
    · rw [a6 8 (by decide) (by decide) (by decide) (by decide), a5 8 (by decide) (by decide)]
    · rw [a6 9 (by decide) (by decide) (by decide) (by decide), a5 9 (by decide) (by decide)]
  have eo : (cg (pW x k i) 25 i ≠ 0) ↔ cg y 25 i = 1 := by
    rcases a8 i hi with ⟨q1, q2⟩ | ⟨q1, q2, -⟩ | ⟨q1, k', q2, -, q4⟩
    · rw [q1, q2]; decide
    · rw [q1, q2]; decide
    · rw [q1, q4]
      refine ⟨fun z => absurd rfl z, fun z => ?_⟩
      have := (nI_eq (a := 2 + (ct x 5 + k' + 1)) (b := 1) (by omega) (by decide)).mp z
      omega
  unfold pD q_end1
  rw [a6 26 (by decide) (by decide) (by decide) (by decide), a6 23 (by decide) (by decide) (by decide) (by decide), a6 24 (by decide) (by decide) (by decide) (by decide), eu, ev, et, eh, decide_eq_decide.mpr e15, decide_eq_false hm, decide_eq_decide.mpr eo, Bool.false_or]
/-! a session closes once -/
theorem q_close_off (y : s_T) (a : Int32) {j i : Nat} (h : cg (q_close y a i).1 25 j = 0) : ∀ d, cg (q_close y a (i + d)).1 25 j = 0
  | 0 => h
  | d + 1 => by
    have ih := q_close_off y a h d
    show cg (q_close y a (i + d + 1)).1 25 j = 0
    by_cases hq : q_end1 (q_close y a (i + d)).1 a (i + d) = true
    · rw [q_close_t hq]
      show cg (q_shut (q_close y a (i + d)).1 (i + d)) 25 j = 0
      rw [q_shut_25, ih]
      split <;> rfl
    · rw [q_close_f (Bool.eq_false_iff.mpr hq)]
      exact ih
theorem q_tick_off {j k : Nat} (h : cg (q_tick x k).1 25 j = 0) : ∀ d, cg (q_tick x (k + d)).1 25 j = 0
  | 0 => h
  | d + 1 => by
    have ih := q_tick_off h d
    have h0 : cg (q_close (pY x (k + d)) (-1) 0).1 25 j = 0 := ih
    have h1 := q_close_off (pY x (k + d)) (-1) h0 (ct x 29)
    rw [Nat.zero_add] at h1
    show cg (q_tick x (k + d + 1)).1 25 j = 0
    rw [← pW_end]
    exact h1
theorem pD_on {k i : Nat} (h : pD x k i = true) : cg (q_tick x k).1 25 i ≠ 0 := by
  have h1 := q_end1_o h
  have h2 : cg (pW x k i) 25 i = cg (pY x k) 25 i := q_close_25 (pY x k) (-1) i i (Nat.le_refl _)
  rw [h2] at h1
  exact h1
theorem pD_off {k i : Nat} (h : pD x k i = true) (hi : i < ct x 29) : cg (q_tick x (k + 1)).1 25 i = 0 := by
  have h1 : cg (q_close (pY x k) (-1) (i + 1)).1 25 i = 0 := by
    show cg (pW x k (i + 1)) 25 i = 0
    rw [pW_t h, q_shut_25, if_pos rfl]
  have h2 := q_close_off (pY x k) (-1) h1 (ct x 29 - (i + 1))
  rw [show i + 1 + (ct x 29 - (i + 1)) = ct x 29 by omega] at h2
  rw [← pW_end]
  exact h2
theorem pD_once {k k' i : Nat} (hi : i < ct x 29) (h : pD x k i = true) (h' : pD x k' i = true) : ¬ k < k' := fun hk => by
  have h1 := q_tick_off (pD_off h hi) (k' - (k + 1))
  rw [show k + 1 + (k' - (k + 1)) = k' by omega] at h1
  exact pD_on h' h1
theorem pD_later {k m i : Nat} (hi : i < ct x 29) (h : pD x k i = true) (hk : k < m) : cg (q_tick x m).1 25 i = 0 := by
  have h1 := q_tick_off (pD_off h hi) (m - (k + 1))
  rw [show k + 1 + (m - (k + 1)) = m by omega] at h1
  exact h1
/-! the steps told one by one -/
def q_rw (y w : s_T) : s_T := ss (cf (cf y 30 (cg w 30)) 31 (cg w 31)) 32 (ct w 32)
theorem LR.rw (h : LR y z) (w : s_T) : LR (q_rw y w) (zs (zs z 2 8 (q_last w)) 2 7 (nI (ct w 32))) := by
  obtain ⟨h0, h1, ⟨a0, a1, a2, a3, a4, a5, a6, a7, a8⟩, h3, h4, h5, h6⟩ := h
  exact ⟨h0, h1, ⟨a0, a1, a2, a3, a4, a5, a6, rfl, rfl⟩, h3, h4, h5, h6⟩
def pR1 (x y : s_T) (k : Nat) : Nat → s_T
  | 0 => y
  | i + 1 => if pD x k i = true then q_rw (cs (pR1 x y k i) 25 i 0) (pW x k (i + 1)) else pR1 x y k i
def pRO (x : s_T) (m : Nat) : Nat → s_T
  | 0 => pO x m
  | k + 1 => pR1 x (pRO x m k) k (ct x 29)
theorem pR1_t {k i : Nat} (h : pD x k i = true) : pR1 x y k (i + 1) = q_rw (cs (pR1 x y k i) 25 i 0) (pW x k (i + 1)) := by rw [pR1, if_pos h]
theorem pR1_f {k i : Nat} (h : pD x k i = false) : pR1 x y k (i + 1) = pR1 x y k i := by rw [pR1, if_neg (by rw [h]; decide)]
def JR (x : s_T) (m : Nat) (y w : s_T) (k i : Nat) : Prop := (∀ f, f ≠ 32 → ct y f = ct (pO x m) f) ∧ ct y 32 = ct w 32 ∧ cg y 30 = cg w 30 ∧ cg y 31 = cg w 31 ∧ (∀ f, f ≠ 25 → f ≠ 30 → f ≠ 31 → cg y f = cg (pO x m) f) ∧
  ∀ j, j < ct x 29 → (pC x k i j → cg y 25 j = 0) ∧ (¬ pC x k i j → cg y 25 j = cg (pO x m) 25 j)
theorem JR_step {m k i : Nat} (h : JR x m y (pW x k i) k i) : JR x m (if pD x k i = true then q_rw (cs y 25 i 0) (pW x k (i + 1)) else y) (pW x k (i + 1)) k (i + 1) := by
  obtain ⟨a1, a2, a3, a4, a5, a6⟩ := h
  by_cases hD : pD x k i = true
  · rw [if_pos hD]
    refine ⟨fun f hf => ?_, rfl, rfl, rfl, fun f h25 h30 h31 => ?_, fun j hj => ?_⟩
    · rw [← a1 f hf]
      unfold q_rw
      rw [ct_ss, if_neg hf]
      rfl
    · rw [← a5 f h25 h30 h31]
      funext q
      unfold q_rw
      rw [cg_ss, cg_cf, if_neg h31, cg_cf, if_neg h30, cg_cs, if_neg h25]
    · have e : cg (q_rw (cs y 25 i 0) (pW x k (i + 1))) 25 j = if j = i then 0 else cg y 25 j := by
        unfold q_rw
        rw [cg_ss, cg_cf, if_neg (by decide), cg_cf, if_neg (by decide), cg_cs, if_pos rfl]
      rw [e]
      by_cases hji : j = i
      · subst hji
        rw [if_pos rfl]
        exact ⟨fun _ => rfl, fun hn => absurd (Or.inr ⟨Nat.lt_succ_self _, hD⟩) hn⟩
      · rw [if_neg hji]
        refine ⟨fun hc => (a6 j hj).1 ?_, fun hn => (a6 j hj).2 (fun hc => hn ?_)⟩
        · exact hc.imp id (fun z => ⟨by omega, z.2⟩)
        · exact hc.imp id (fun z => ⟨by omega, z.2⟩)
  · rw [if_neg hD, pW_f (Bool.eq_false_iff.mpr hD)]
    refine ⟨a1, a2, a3, a4, a5, fun j hj => ⟨fun hc => (a6 j hj).1 ?_, fun hn => (a6 j hj).2 (fun hc => hn ?_)⟩⟩
    · refine hc.imp id (fun z => ⟨?_, z.2⟩)
      have : j ≠ i := fun q => hD (q ▸ z.2)
      omega
    · exact hc.imp id (fun z => ⟨by omega, z.2⟩)
theorem JR_inner {m k : Nat} (h : JR x m y (pW x k 0) k 0) : ∀ i, JR x m (pR1 x y k i) (pW x k i) k i
  | 0 => h
  | i + 1 => by
    have h1 := JR_step (JR_inner h i)
    by_cases hD : pD x k i = true
    · rw [if_pos hD] at h1
      rw [pR1_t hD]
      exact h1
    · rw [if_neg hD] at h1
      rw [pR1_f (Bool.eq_false_iff.mpr hD)]
      exact h1
theorem JR_outer (h25 : ∀ j, j < ct x 29 → cg x 25 j = 0 ∨ cg x 25 j = 1) (m : Nat) : ∀ k, JR x m (pRO x m k) (pW x k 0) k 0
  | 0 => by
    obtain ⟨a1, a2, a3, a4, a5, a6, a7, a8⟩ := J_outer h25 m
    refine ⟨fun _ _ => rfl, a3 32 (by decide), a5 30 (by decide) (by decide), a5 31 (by decide) (by decide), fun _ _ _ _ => rfl, fun j hj => ⟨?_, fun _ => rfl⟩⟩
    rintro (⟨k', h1, -⟩ | ⟨h1, -⟩) <;> exact absurd h1 (Nat.not_lt_zero _)
  | k + 1 => by
    obtain ⟨a1, a2, a3, a4, a5, a6⟩ := JR_inner (JR_outer h25 m k) (ct x 29)
    rw [pW_end] at a2 a3 a4
    exact ⟨a1, a2, a3, a4, a5, fun j hj => ⟨fun hc => (a6 j hj).1 ((pC_next hj).mp hc), fun hn => (a6 j hj).2 (fun hc => hn ((pC_next hj).mpr hc))⟩⟩
theorem JR_in (h25 : ∀ j, j < ct x 29 → cg x 25 j = 0 ∨ cg x 25 j = 1) (m k i : Nat) : JR x m (pR1 x (pRO x m k) k i) (pW x k i) k i := JR_inner (JR_outer h25 m k) i
theorem pR_test {m k i : Nat} (h25 : ∀ j, j < ct x 29 → cg x 25 j = 0 ∨ cg x 25 j = 1) (h : JR x m y (pW x k i) k i) (hi : i < ct x 29) (hk : k < m) (ht : ct x 5 + m ≤ 100000) : cg y 25 i = nI (2 + (ct x 5 + k + 1)) ↔ pD x k i = true := by
  obtain ⟨-, -, -, -, -, a6⟩ := h
  obtain ⟨b1, b2⟩ := a6 i hi
  obtain ⟨-, -, -, -, -, -, -, a8⟩ := J_outer h25 m
  have big : ∀ c : Nat, c ≤ 1 → ¬ nI c = nI (2 + (ct x 5 + k + 1)) := fun c hc z => by
    have := (nI_eq (by omega) (by omega)).mp z
    omega
  have hz : pC x k i i → ¬ cg y 25 i = nI (2 + (ct x 5 + k + 1)) := fun hc z => big 0 (by decide) ((b1 hc).symm.trans z)
  have hnc : pD x k i = true → ¬ pC x k i i := fun hD hc => by
    rcases hc with ⟨k', h1, h2⟩ | ⟨h1, -⟩
    · exact pD_once hi h2 hD h1
    · exact absurd h1 (Nat.lt_irrefl _)
  constructor
  · intro z
    have hc : ¬ pC x k i i := fun hc => hz hc z
    rw [b2 hc] at z
    rcases a8 i hi with ⟨-, q2⟩ | ⟨-, q2, -⟩ | ⟨-, k', q2, q3, q4⟩
    · rw [q2] at z; exact absurd z (big 1 (by decide))
    · rw [q2] at z; exact absurd z (big 0 (by decide))
    · rw [q4] at z
      have hk' : k' < m := by omega
      have e := (nI_eq (by omega) (by omega)).mp z
      rw [show k = k' by omega]
      exact q3
  · intro hD
    rw [b2 (hnc hD)]
    rcases a8 i hi with ⟨q1, -⟩ | ⟨-, -, q3⟩ | ⟨-, k', q2, q3, q4⟩
    · rw [pD_later hi hD hk] at q1
      exact absurd q1 (by decide)
    · exact absurd (Or.inl ⟨k, hk, hD⟩) q3
    · rw [q4]
      have h1 := pD_once hi hD q3
      have h2 := pD_once hi q3 hD
      rw [show k' = k by omega]
theorem pR_end {m : Nat} (h25 : ∀ j, j < ct x 29 → cg x 25 j = 0 ∨ cg x 25 j = 1) (hR : LR (pRO x m m) z) : LR (q_tick x m).1 z := by
  obtain ⟨a1, a2, a3, a4, a5, a6⟩ := JR_outer h25 m m
  obtain ⟨c1, c2, c3, c4, c5, c6, c7, c8⟩ := J_outer h25 m
  refine hR.congr (fun f => ?_) (fun f hf => ?_) (fun j hj => ?_)
  · by_cases h32 : f = 32
    · subst h32; rw [a2]; rfl
    · rw [a1 f h32]
      by_cases h5 : f = 5
      · subst h5; rw [c1, c2]
      · rw [c3 f h5, c4 f h5 h32]
  · by_cases h30 : f = 30
    · subst h30; rw [a3]; rfl
    · by_cases h31 : f = 31
      · subst h31; rw [a4]; rfl
      · rw [a5 f hf h30 h31]
        by_cases h27 : f = 27
        · subst h27; rw [c7]
        · rw [c5 f hf h27, c6 f hf h27 h30 h31]
  · rw [a1 29 (by decide), c3 29 (by decide)] at hj
    obtain ⟨b1, b2⟩ := a6 j hj
    rcases c8 j hj with ⟨q1, q2⟩ | ⟨q1, q2, q3⟩ | ⟨q1, k', q2, q3, q4⟩
    · rw [q1, b2 (fun hc => ?_), q2]
      rcases hc with ⟨k', h1, h2⟩ | ⟨h1, -⟩
      · rw [pD_later hj h2 h1] at q1
        exact absurd q1 (by decide)
      · exact absurd h1 (Nat.not_lt_zero _)
    · rw [q1, b2 q3, q2]
    · rw [q1, b1 (Or.inl ⟨k', by omega, q3⟩)]
/-! how many close -/
def cN (x : s_T) : Nat → Nat
  | 0 => 0
  | k + 1 => cN x k + q_cnt (pY x k) (-1) (ct x 29)
theorem cN_eq (x : s_T) : ∀ k, (q_tick x k).2 = nI (cN x k)
  | 0 => rfl
  | k + 1 => by rw [← pT_end, cN_eq x k, q_cnt_eq, nI_add]; rfl
theorem cN_le (x : s_T) : ∀ k, cN x k ≤ k * ct x 29
  | 0 => Nat.zero_le _
  | k + 1 => by
    have h1 := cN_le x k
    have h2 := q_cnt_le (pY x k) (-1) (ct x 29)
    rw [Nat.succ_mul]
    show cN x k + q_cnt (pY x k) (-1) (ct x 29) ≤ _
    omega
theorem cN_mono (x : s_T) (k : Nat) : ∀ d, cN x k ≤ cN x (k + d)
  | 0 => Nat.le_refl _
  | d + 1 => Nat.le_trans (cN_mono x k d) (Nat.le_add_right _ _)
theorem cN_none {m k i : Nat} (h : cN x m = 0) (hk : k < m) (hi : i < ct x 29) : pD x k i = false := by
  cases hD : pD x k i with
  | false => rfl
  | true =>
    have h1 := cN_mono x (k + 1) (m - (k + 1))
    rw [show k + 1 + (m - (k + 1)) = m by omega, h] at h1
    have h2 : cN x (k + 1) = cN x k + q_cnt (pY x k) (-1) (ct x 29) := rfl
    have h3 := q_cnt_mono (pY x k) (-1) (i + 1) (ct x 29 - (i + 1))
    rw [show i + 1 + (ct x 29 - (i + 1)) = ct x 29 by omega] at h3
    have h4 : q_cnt (pY x k) (-1) (i + 1) = q_cnt (pY x k) (-1) i + 1 := by
      rw [q_cnt, if_pos (show q_end1 (q_close (pY x k) (-1) i).1 (-1) i = true from hD)]
    omega
theorem pR1_none {k : Nat} : ∀ n, (∀ i, i < n → pD x k i = false) → pR1 x y k n = y
  | 0, _ => rfl
  | n + 1, h => by rw [pR1_f (h n (Nat.lt_succ_self _)), pR1_none n (fun i hi => h i (by omega))]
theorem pRO_none {m : Nat} (h : cN x m = 0) : ∀ k, k ≤ m → pRO x m k = pO x m
  | 0, _ => rfl
  | k + 1, hk => by
    rw [pRO, pR1_none (ct x 29) (fun i hi => cN_none h (by omega) hi), pRO_none h k (by omega)]
/-! bounds while minutes pass -/
theorem LI.tick {N : Nat} (h : LI x) (hV : q_inv N x) : ∀ k, ct x 5 + k ≤ 100000 → LI (q_tick x k).1
  | 0, _ => h
  | k + 1, hk => by
    have ih := LI.tick h hV k (by omega)
    have e := q_tick_5 x k
    exact LI.close (ih.clock (Nat.le_succ _)) (q_inv_clock (q_inv_tick hV k (by omega)) (Nat.le_succ _) (by omega)) (-1) _ (Nat.le_refl _)
theorem LH.tick (h : LH x) : ∀ k, LH (q_tick x k).1
  | 0 => h
  | k + 1 => LH.close (y := pY x k) (LH.tick h k) (-1) _
theorem q_ext_tick (x : s_T) (k : Nat) : ∀ d, q_ext (q_tick x k).1 (q_tick x (k + d)).1
  | 0 => q_ext.rf _
  | d + 1 => (q_ext_tick x k d).tr ((q_rec.ext (a := (q_tick x (k + d)).1) (b := pY x (k + d)) ⟨rfl, rfl, rfl⟩).tr (q_ext_closes (k := 0) (pY x (k + d)) (-1) (Nat.zero_le _)))
theorem q_ext_pW {k i m : Nat} (hi : i ≤ ct x 29) (hk : k < m) (hm : m < 2 ^ 31) : q_ext (pW x k i) (f_pass_s x (nI m)) := by
  have h1 : q_ext (pW x k i) (q_tick x (k + 1)).1 := by
    have h := q_ext_closes (pY x k) (-1) (k := i) (by rw [pY_29]; exact hi)
    exact h
  have h2 := q_ext_tick x (k + 1) (m - (k + 1))
  rw [show k + 1 + (m - (k + 1)) = m by omega] at h2
  refine (h1.tr h2).tr ?_
  unfold f_pass_s
  rw [pn_nI hm]
  exact q_rec.ext ⟨rfl, rfl, rfl⟩
theorem LR.lap (h : LR (cf y 15 (q_lapf y 0)) z) : LR y z := by
  rw [q_lapf_0] at h
  exact h
theorem q_opn_le2 (y : s_T) : ∀ n, q_opn y n ≤ n
  | 0 => Nat.le_refl _
  | n + 1 => by
    have := q_opn_le2 y n
    rw [q_opn]
    split <;> omega
/-- the law's state keeps the bounds, too -/
theorem q_inv_pass {N k i t : Nat} (hV : q_inv N x) (h : J x y w k i t) (h29 : ct x 29 ≤ 12) (ht : ct x 5 ≤ t) (ht2 : t ≤ 100000) (hN : N ≤ 506) : q_inv 512 y := by
  obtain ⟨a1, a2, a3, a4, a5, a6, a7, a8⟩ := h
  have h1 := q_inv_clock (q_inv_mono hV (show N ≤ 512 by omega)) ht ht2
  refine q_inv_sim h1 ⟨fun f hf => ?_, fun f hf => ?_⟩ ?_
  · by_cases h5 : f = 5
    · subst h5
      rw [a1, ct_ss, if_pos rfl]
    · rw [a3 f h5, ct_ss, if_neg h5]
  · rw [a5 f (fun z => by rw [z] at hf; exact absurd hf (by decide)) (fun z => by rw [z] at hf; exact absurd hf (by decide))]
    rfl
  · have h2 := q_opn_le2 y (ct y 29)
    have h3 := hV.1.2.2.2.2.2.2.2
    rw [a3 29 (by decide)] at h2 ⊢
    rw [a3 32 (by decide)]
    omega
/-! labels, rights taken away -/
theorem LR.lab {p t : Nat} {h : Bool} (hR : LR x z) (hp : p < 5) (ht : t < 2) : LR (cs x 1 (4 * p + t) (bI h)) (zs z 0 (2 * p + 1) (c_keep (z 0 (2 * p + 1)) t h)) := by
  obtain ⟨h0, h1, h2, h3, h4, h5, h6⟩ := hR
  refine ⟨fun k hk => ?_, h1, h2, h3, h4, h5, h6⟩
  obtain ⟨q1, q2⟩ := h0 k hk
  refine ⟨?_, fun u hu => ?_⟩
  · rw [zs_get, if_pos rfl, if_neg (by omega), cg_cs, if_neg (by decide)]
    exact q1
  · rw [zs_get, if_pos rfl, cg_cs, if_pos rfl]
    by_cases hkp : k = p
    · subst hkp
      rw [if_pos rfl, c_keep_bit (by omega) (by omega)]
      by_cases hut : u = t
      · rw [if_pos hut, if_pos (by omega)]
      · rw [if_neg hut, if_neg (by omega)]
        exact q2 u hu
    · rw [if_neg (by omega), if_neg (by omega)]
      exact q2 u hu
theorem LI.strip (h : LI x) (p l : Int32) : ∀ k, LI (q_strip x p l k)
  | 0 => h
  | k + 1 => by
    by_cases hq : cg (q_strip x p l k) 3 k = l
    · rw [q_strip_t hq]
      exact (LI.strip h p l k).ends _ _ |>.denies _ _
    · rw [q_strip_f hq]
      exact LI.strip h p l k
theorem LH.strip (h : LH x) (p l : Int32) : ∀ k, LH (q_strip x p l k)
  | 0 => h
  | k + 1 => by
    by_cases hq : cg (q_strip x p l k) 3 k = l
    · rw [q_strip_t hq]
      exact LH.strip h p l k
    · rw [q_strip_f hq]
      exact LH.strip h p l k
theorem l_tac (hI : LI x) {a b : Nat} (ha : a < 5) (hb : b < 3) : f_takeAway_c x (nI a) (nI b) = 0 := by
  unfold f_takeAway_c
  rw [l_both hI ha hb]
  rfl
theorem l_slc (hI : LI x) {a b : Nat} (ha : a < 5) (hb : b < 2) : f_setLabel_c x (nI a) (nI b) = 0 := by
  unfold f_setLabel_c
  rw [show q_ix (nI a) (ct x 2) = true by rw [hI.1]; exact l_ix ha (by decide), show q_in (nI b) 0 3 = true from l_inT (lo := 0) (hi := 3) (Nat.zero_le _) (by omega) (by decide)]
  rfl
theorem l_psc {t : Nat} (h1 : 1 ≤ t) (h2 : t ≤ 3000) (h3 : ct x 5 + t ≤ 100000) : f_pass_c x (nI t) = 0 := by
  unfold f_pass_c
  rw [show q_in (nI t) 1 3000 = true from l_inT (lo := 1) (hi := 3000) h1 h2 (by decide), nI_add, decide_eq_true (show nI (ct x 5 + t) ≤ 100000 from (nI_leI (b := 100000) (by omega) (by decide)).mpr h3)]
  rfl
def l_m2 (w : Nat) : Nat := if w = 1 then 40 else 12
theorem l_m2_le (w : Nat) : 12 ≤ l_m2 w ∧ l_m2 w ≤ 40 := by
  unfold l_m2
  split <;> omega
def l_mi (w z T : Nat) : Nat := if w = 0 ∧ z % 5 = 0 ∧ T < 90000 then 1440 else 1 + z / 5 % l_m2 w
theorem l_mi_le (w z T : Nat) : 1 ≤ l_mi w z T ∧ (l_mi w z T ≤ 40 ∨ (l_mi w z T ≤ 1440 ∧ T < 90000)) := by
  unfold l_mi
  split
  · omega
  · have h := l_m2_le w
    have := Nat.mod_lt (z / 5) (show 0 < l_m2 w by omega)
    omega
def l_wt (w z : Nat) : Nat := if w % 4 = 2 ∧ 0 < z % 3 then 3 else w % 4
theorem l_wt_le (w z : Nat) : l_wt w z < 4 := by
  unfold l_wt
  split <;> omega
theorem q_lap1_eq {k t T : Nat} (h14 : cg y 14 k = nI t) (h5 : ct y 5 = T) (ht : t ≤ T) (hT : T ≤ 100000) : q_lap1 y k = (decide (cg y 15 k = 0) && decide (t + 60 ≤ T)) := by
  have e : (60 ≤ q_now y - nI t) ↔ t + 60 ≤ T := by
    show (nI 60 ≤ nI (ct y 5) - nI t) ↔ _
    rw [h5]
    exact l_ge (by decide) ht hT
  unfold q_lap1
  rw [h14, decide_eq_decide.mpr e]
end L79
