/-! joins and counted loops -/
theorem q_in_ix {v : Int32} {n : Nat} (hn : n < 2 ^ 31) : q_in v 0 (nI n - 1) = q_ix v n := by
  cases n with
  | zero =>
    rw [show nI 0 - 1 = (-1 : Int32) from rfl]
    unfold q_in q_ix
    rw [show decide (v.toNatClampNeg < 0) = false from decide_eq_false (Nat.not_lt_zero _), Bool.and_false]
    by_cases h : (0 : Int32) ≤ v
    · have h2 : ¬ v ≤ -1 := fun z => by
        have a := Int32.le_iff_toInt_le.mp h
        have b := Int32.le_iff_toInt_le.mp z
        have e0 : (0 : Int32).toInt = 0 := rfl
        have e1 : (-1 : Int32).toInt = -1 := rfl
        omega
      simp [h2]
    · simp [h]
  | succ n =>
    rw [nI_pred]
    by_cases h : v < 0
    · have h1 : ¬ (0 : Int32) ≤ v := Int32.not_le.mpr h
      unfold q_in q_ix
      simp [h1, h]
    · obtain ⟨j, hj, rfl⟩ := nI_of h
      unfold q_in q_ix
      rw [nI_clamp hj, decide_eq_true (nI_pos hj), Bool.true_and, decide_eq_true (nI_pos' hj), Bool.true_and]
      exact decide_eq_decide.mpr ((nI_leI hj (by omega)).trans (by omega))
theorem mm_exit {k n : Nat} (hk : k ≤ n) (hn : n < 2 ^ 31) (c : nI n ≤ nI k) : k = n := by
  have h := (nI_leI hn (by omega)).mp c
  omega
theorem mm_stay {k n : Nat} (hk : k ≤ n) (hn : n < 2 ^ 31) (c : ¬ nI n ≤ nI k) : k < n := by
  rcases Nat.lt_or_ge k n with h | h
  · exact h
  · exact absurd (nI_le h (by omega)) c
theorem mm_inc (k : Nat) : nI k + Int32.ofInt 1 = nI (k + 1) := nI_1 k
theorem mm_le0 {v : Int32} (h : ¬ v < 0) : (0 : Int32) ≤ v := Int32.not_lt.mp h
section MJ
variable {p : Program} {l : Launch} {e : Env} {R : Room} {s : State} {m : MethodId} {args : Array Value} {below : List Frame} {meth : Method} {c : Code} {H : Heap} {locs : List Loc} {cells slots : Nat} {Q : State → Prop}
variable {pc : Nat} {ls : Array Slot} {st : List Value} {A : Nat → Prop} {G : mw_G} {M : mw_M}
theorem mw_join (hT0 : mw_T G A s M H locs) (pcJ : Nat) (k n : Nat) (P : Int32 → mw_M → Prop) (J : ∀ (r : Int32) (M1 : mw_M) (H1 : Heap) (locs1 : List Loc), P r M1 → mw_T G A s M1 H1 locs1 → W p l e R s m args below meth c H1 locs1 k n Q (F0 m pcJ ls (.int r :: st))) (K : (∀ (r : Int32) (M1 : mw_M) (H1 : Heap) (locs1 : List Loc), P r M1 → mw_T G A s M1 H1 locs1 → W p l e R s m args below meth c H1 locs1 k n Q (F0 m pcJ ls (.int r :: st))) → W p l e R s m args below meth c H locs cells slots Q (F0 m pc ls st)) : W p l e R s m args below meth c H locs cells slots Q (F0 m pc ls st) := K J
/-- a join with no value -/
theorem mw_joinN (hT0 : mw_T G A s M H locs) (pcJ : Nat) (k n : Nat) (P : mw_M → Prop) (J : ∀ (M1 : mw_M) (H1 : Heap) (locs1 : List Loc), P M1 → mw_T G A s M1 H1 locs1 → W p l e R s m args below meth c H1 locs1 k n Q (F0 m pcJ ls st)) (K : (∀ (M1 : mw_M) (H1 : Heap) (locs1 : List Loc), P M1 → mw_T G A s M1 H1 locs1 → W p l e R s m args below meth c H1 locs1 k n Q (F0 m pcJ ls st)) → W p l e R s m args below meth c H locs cells slots Q (F0 m pc ls st)) : W p l e R s m args below meth c H locs cells slots Q (F0 m pc ls st) := K J
theorem mw_loop {pcH nL n : Nat} (P : Nat → mw_M → Prop) (LV : Nat → List (Nat × Value))
    (step : ∀ k : Nat, k ≤ n → (k < n → ∀ (M1 : mw_M) (H1 : Heap) (locs1 : List Loc) (ls1 : Array Slot), P (k + 1) M1 → mw_T G A s M1 H1 locs1 → lv_has ls1 nL (LV (k + 1)) → W p l e R s m args below meth c H1 locs1 cells slots Q (F0 m pcH ls1 st)) →
      ∀ (M1 : mw_M) (H1 : Heap) (locs1 : List Loc) (ls1 : Array Slot), P k M1 → mw_T G A s M1 H1 locs1 → lv_has ls1 nL (LV k) → W p l e R s m args below meth c H1 locs1 cells slots Q (F0 m pcH ls1 st))
    (h0 : P 0 M) (hT : mw_T G A s M H locs) (hl : lv_has ls nL (LV 0)) : W p l e R s m args below meth c H locs cells slots Q (F0 m pcH ls st) := by
  have key : ∀ (d k : Nat), k ≤ n → n - k = d → ∀ (M1 : mw_M) (H1 : Heap) (locs1 : List Loc) (ls1 : Array Slot), P k M1 → mw_T G A s M1 H1 locs1 → lv_has ls1 nL (LV k) → W p l e R s m args below meth c H1 locs1 cells slots Q (F0 m pcH ls1 st) := by
    intro d
    induction d with
    | zero => intro k hk hd; exact step k hk (fun h => absurd h (by omega))
    | succ d ih => intro k hk hd; exact step k hk (fun h => ih (k + 1) h (by omega))
  exact key (n - 0) 0 (Nat.zero_le _) rfl M H locs ls h0 hT hl
end MJ
