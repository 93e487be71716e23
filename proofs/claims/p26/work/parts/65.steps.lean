/-! the bounds behind each call -/
section ST5
variable {x y : s_T} {N K : Nat}
theorem q_ref.mono {v : Int32} {n m : Nat} (h : q_ref v n) (hnm : n ≤ m) : q_ref v m := by
  obtain ⟨j, hj, e⟩ := h
  exact ⟨j, by omega, e⟩
theorem q_inv_writeK {kd p m : Int32} (h : q_inv K x) (hs : ct x 32 + 1 + q_opn x (ct x 29) ≤ 2 * K) : q_inv K (q_write x kd p m) :=
  q_inv_sim h (q_sim_write x kd p m) (by
    rw [q_opn_write]
    show (ct x 32 + 1) + q_opn x (ct x 29) ≤ 2 * K
    exact hs)
theorem q_zl_sim (h : q_zl x) (h1 : cg y 1 = cg x 1) (h2 : ct x 2 ≤ ct y 2) : q_zl y := fun k hk => by
  rw [h1]
  exact h k (by omega)
theorem q_inv_person {t : Int32} (h : q_inv N x) (h2 : ct x 2 < 12) : q_inv (N + 1) (ss (cs x 0 (ct x 2) t) 2 (ct x 2 + 1)) := by
  obtain ⟨⟨i2, i4, i5, i10, i17, i22, i29, i32⟩, hr3, hr6, hr11, hr18, hr23, hz21, hz28, hlb⟩ := h
  have eo : q_opn (ss (cs x 0 (ct x 2) t) 2 (ct x 2 + 1)) (ct x 29) = q_opn x (ct x 29) := q_opn_congr (fun k _ => by simp [cg_ss, cg_cs, ct_ss, ct_cs])
  refine ⟨?_, ?_, ?_, ?_, ?_, ?_, ?_, ?_, ?_⟩
  · refine ⟨by simp [cg_ss, cg_cs, ct_ss, ct_cs]; omega, by simpa [cg_ss, cg_cs, ct_ss, ct_cs] using i4, by simpa [cg_ss, cg_cs, ct_ss, ct_cs] using i5, by simp [cg_ss, cg_cs, ct_ss, ct_cs]; omega, by simp [cg_ss, cg_cs, ct_ss, ct_cs]; omega, by simp [cg_ss, cg_cs, ct_ss, ct_cs]; omega, by simp [cg_ss, cg_cs, ct_ss, ct_cs]; omega, ?_⟩
    rw [show ct (ss (cs x 0 (ct x 2) t) 2 (ct x 2 + 1)) 29 = ct x 29 by simp [cg_ss, cg_cs, ct_ss, ct_cs], eo, show ct (ss (cs x 0 (ct x 2) t) 2 (ct x 2 + 1)) 32 = ct x 32 by simp [cg_ss, cg_cs, ct_ss, ct_cs]]; omega
  · simpa [cg_ss, cg_cs, ct_ss, ct_cs] using hr3
  · intro k hk; have h := hr6 k (by simpa [cg_ss, cg_cs, ct_ss, ct_cs] using hk); simpa [cg_ss, cg_cs, ct_ss, ct_cs] using And.intro (h.1.mono (Nat.le_succ _)) h.2
  · intro k hk; have h := hr11 k (by simpa [cg_ss, cg_cs, ct_ss, ct_cs] using hk); simpa [cg_ss, cg_cs, ct_ss, ct_cs] using (⟨h.1.mono (Nat.le_succ _), h.2.1, h.2.2.1, h.2.2.2.imp id (fun z => z.mono (Nat.le_succ _))⟩ : q_ref (cg x 11 k) (ct x 2 + 1) ∧ q_ref (cg x 12 k) (ct x 4) ∧ q_ref (cg x 14 k) (ct x 5 + 1) ∧ (cg x 16 k = -1 ∨ q_ref (cg x 16 k) (ct x 2 + 1)))
  · intro k hk; have h := hr18 k (by simpa [cg_ss, cg_cs, ct_ss, ct_cs] using hk); simpa [cg_ss, cg_cs, ct_ss, ct_cs] using And.intro (h.1.mono (Nat.le_succ _)) h.2
  · intro k hk; have h := hr23 k (by simpa [cg_ss, cg_cs, ct_ss, ct_cs] using hk); simpa [cg_ss, cg_cs, ct_ss, ct_cs] using And.intro (h.1.mono (Nat.le_succ _)) h.2
  · simpa [cg_ss, cg_cs, ct_ss, ct_cs] using hz21
  · simpa [cg_ss, cg_cs, ct_ss, ct_cs] using hz28
  · simpa [cg_ss, cg_cs, ct_ss, ct_cs] using hlb
theorem q_inv_machine {t : Int32} (h : q_inv N x) (h2 : ct x 4 < 8) (ht : q_ref t 4) : q_inv (N + 1) (ss (cs x 3 (ct x 4) t) 4 (ct x 4 + 1)) := by
  obtain ⟨⟨i2, i4, i5, i10, i17, i22, i29, i32⟩, hr3, hr6, hr11, hr18, hr23, hz21, hz28, hlb⟩ := h
  have eo : q_opn (ss (cs x 3 (ct x 4) t) 4 (ct x 4 + 1)) (ct x 29) = q_opn x (ct x 29) := q_opn_congr (fun k _ => by simp [cg_ss, cg_cs, ct_ss, ct_cs])
  refine ⟨?_, ?_, ?_, ?_, ?_, ?_, ?_, ?_, ?_⟩
  · refine ⟨by simpa [cg_ss, cg_cs, ct_ss, ct_cs] using i2, by simp [cg_ss, cg_cs, ct_ss, ct_cs]; omega, by simpa [cg_ss, cg_cs, ct_ss, ct_cs] using i5, by simp [cg_ss, cg_cs, ct_ss, ct_cs]; omega, by simp [cg_ss, cg_cs, ct_ss, ct_cs]; omega, by simp [cg_ss, cg_cs, ct_ss, ct_cs]; omega, by simp [cg_ss, cg_cs, ct_ss, ct_cs]; omega, ?_⟩
    rw [show ct (ss (cs x 3 (ct x 4) t) 4 (ct x 4 + 1)) 29 = ct x 29 by simp [cg_ss, cg_cs, ct_ss, ct_cs], eo, show ct (ss (cs x 3 (ct x 4) t) 4 (ct x 4 + 1)) 32 = ct x 32 by simp [cg_ss, cg_cs, ct_ss, ct_cs]]; omega
  · intro k hk
    have hk : k < ct x 4 + 1 := by simpa [cg_ss, cg_cs, ct_ss, ct_cs] using hk
    by_cases hkn : k = ct x 4
    · simpa [cg_ss, cg_cs, ct_ss, ct_cs, hkn] using ht
    · have h := hr3 k (by omega); simpa [cg_ss, cg_cs, ct_ss, ct_cs, hkn] using h
  · intro k hk; have h := hr6 k (by simpa [cg_ss, cg_cs, ct_ss, ct_cs] using hk); simpa [cg_ss, cg_cs, ct_ss, ct_cs] using And.intro h.1 (h.2.mono (Nat.le_succ _))
  · intro k hk; have h := hr11 k (by simpa [cg_ss, cg_cs, ct_ss, ct_cs] using hk); simpa [cg_ss, cg_cs, ct_ss, ct_cs] using (⟨h.1, h.2.1.mono (Nat.le_succ _), h.2.2⟩ : q_ref (cg x 11 k) (ct x 2) ∧ q_ref (cg x 12 k) (ct x 4 + 1) ∧ q_ref (cg x 14 k) (ct x 5 + 1) ∧ (cg x 16 k = -1 ∨ q_ref (cg x 16 k) (ct x 2)))
  · intro k hk; have h := hr18 k (by simpa [cg_ss, cg_cs, ct_ss, ct_cs] using hk); simpa [cg_ss, cg_cs, ct_ss, ct_cs] using And.intro h.1 (h.2.mono (Nat.le_succ _))
  · intro k hk; have h := hr23 k (by simpa [cg_ss, cg_cs, ct_ss, ct_cs] using hk); simpa [cg_ss, cg_cs, ct_ss, ct_cs] using And.intro h.1 (h.2.mono (Nat.le_succ _))
  · simpa [cg_ss, cg_cs, ct_ss, ct_cs] using hz21
  · simpa [cg_ss, cg_cs, ct_ss, ct_cs] using hz28
  · simpa [cg_ss, cg_cs, ct_ss, ct_cs] using hlb
theorem q_inv_ask {p m t : Int32} (h : q_inv N x) (hp : q_ref p (ct x 2)) (hm : q_ref m (ct x 4)) : q_inv (N + 1) (ss (cs (cs (cs (cs (cs (cs x 11 (ct x 17) p) 12 (ct x 17) m) 13 (ct x 17) t) 14 (ct x 17) (q_now x)) 15 (ct x 17) 0) 16 (ct x 17) (-1)) 17 (ct x 17 + 1)) := by
  obtain ⟨⟨i2, i4, i5, i10, i17, i22, i29, i32⟩, hr3, hr6, hr11, hr18, hr23, hz21, hz28, hlb⟩ := h
  have eo : q_opn (ss (cs (cs (cs (cs (cs (cs x 11 (ct x 17) p) 12 (ct x 17) m) 13 (ct x 17) t) 14 (ct x 17) (q_now x)) 15 (ct x 17) 0) 16 (ct x 17) (-1)) 17 (ct x 17 + 1)) (ct x 29) = q_opn x (ct x 29) := q_opn_congr (fun k _ => by simp [cg_ss, cg_cs, ct_ss, ct_cs])
  refine ⟨?_, ?_, ?_, ?_, ?_, ?_, ?_, ?_, ?_⟩
  · refine ⟨by simpa [cg_ss, cg_cs, ct_ss, ct_cs] using i2, by simpa [cg_ss, cg_cs, ct_ss, ct_cs] using i4, by simpa [cg_ss, cg_cs, ct_ss, ct_cs] using i5, by simp [cg_ss, cg_cs, ct_ss, ct_cs]; omega, by simp [cg_ss, cg_cs, ct_ss, ct_cs]; omega, by simp [cg_ss, cg_cs, ct_ss, ct_cs]; omega, by simp [cg_ss, cg_cs, ct_ss, ct_cs]; omega, ?_⟩
    rw [show ct (ss (cs (cs (cs (cs (cs (cs x 11 (ct x 17) p) 12 (ct x 17) m) 13 (ct x 17) t) 14 (ct x 17) (q_now x)) 15 (ct x 17) 0) 16 (ct x 17) (-1)) 17 (ct x 17 + 1)) 29 = ct x 29 by simp [cg_ss, cg_cs, ct_ss, ct_cs], eo, show ct (ss (cs (cs (cs (cs (cs (cs x 11 (ct x 17) p) 12 (ct x 17) m) 13 (ct x 17) t) 14 (ct x 17) (q_now x)) 15 (ct x 17) 0) 16 (ct x 17) (-1)) 17 (ct x 17 + 1)) 32 = ct x 32 by simp [cg_ss, cg_cs, ct_ss, ct_cs]]; omega
  · simpa [cg_ss, cg_cs, ct_ss, ct_cs] using hr3
  · simpa [cg_ss, cg_cs, ct_ss, ct_cs] using hr6
  · intro k hk
    have hk : k < ct x 17 + 1 := by simpa [cg_ss, cg_cs, ct_ss, ct_cs] using hk
    by_cases hkn : k = ct x 17
    · simpa [cg_ss, cg_cs, ct_ss, ct_cs, hkn] using (⟨hp, hm, ⟨ct x 5, Nat.lt_succ_self _, rfl⟩⟩ : q_ref p (ct x 2) ∧ q_ref m (ct x 4) ∧ q_ref (nI (ct x 5)) (ct x 5 + 1))
    · have h := hr11 k (by omega); simpa [cg_ss, cg_cs, ct_ss, ct_cs, hkn] using h
  · simpa [cg_ss, cg_cs, ct_ss, ct_cs] using hr18
  · simpa [cg_ss, cg_cs, ct_ss, ct_cs] using hr23
  · simpa [cg_ss, cg_cs, ct_ss, ct_cs] using hz21
  · simpa [cg_ss, cg_cs, ct_ss, ct_cs] using hz28
  · simpa [cg_ss, cg_cs, ct_ss, ct_cs] using hlb
theorem q_inv_grant {p m t : Int32} (h : q_inv N x) (h10 : ct x 10 + 1 ≤ N) (hp : q_ref p (ct x 2)) (hm : q_ref m (ct x 4)) : q_inv (N) (q_grant x p m t) := by
  obtain ⟨⟨i2, i4, i5, i10, i17, i22, i29, i32⟩, hr3, hr6, hr11, hr18, hr23, hz21, hz28, hlb⟩ := h
  unfold q_grant
  have eo : q_opn (ss (cs (cs (cs (cs x 6 (ct x 10) p) 7 (ct x 10) m) 8 (ct x 10) (q_now x)) 9 (ct x 10) (q_now x + t)) 10 (ct x 10 + 1)) (ct x 29) = q_opn x (ct x 29) := q_opn_congr (fun k _ => by simp [cg_ss, cg_cs, ct_ss, ct_cs])
  refine ⟨?_, ?_, ?_, ?_, ?_, ?_, ?_, ?_, ?_⟩
  · refine ⟨by simpa [cg_ss, cg_cs, ct_ss, ct_cs] using i2, by simpa [cg_ss, cg_cs, ct_ss, ct_cs] using i4, by simpa [cg_ss, cg_cs, ct_ss, ct_cs] using i5, by simp [cg_ss, cg_cs, ct_ss, ct_cs]; omega, by simp [cg_ss, cg_cs, ct_ss, ct_cs]; omega, by simp [cg_ss, cg_cs, ct_ss, ct_cs]; omega, by simp [cg_ss, cg_cs, ct_ss, ct_cs]; omega, ?_⟩
    rw [show ct (ss (cs (cs (cs (cs x 6 (ct x 10) p) 7 (ct x 10) m) 8 (ct x 10) (q_now x)) 9 (ct x 10) (q_now x + t)) 10 (ct x 10 + 1)) 29 = ct x 29 by simp [cg_ss, cg_cs, ct_ss, ct_cs], eo, show ct (ss (cs (cs (cs (cs x 6 (ct x 10) p) 7 (ct x 10) m) 8 (ct x 10) (q_now x)) 9 (ct x 10) (q_now x + t)) 10 (ct x 10 + 1)) 32 = ct x 32 by simp [cg_ss, cg_cs, ct_ss, ct_cs]]; omega
  · simpa [cg_ss, cg_cs, ct_ss, ct_cs] using hr3
  · intro k hk
    have hk : k < ct x 10 + 1 := by simpa [cg_ss, cg_cs, ct_ss, ct_cs] using hk
    by_cases hkn : k = ct x 10
    · simpa [cg_ss, cg_cs, ct_ss, ct_cs, hkn] using And.intro hp hm
    · have h := hr6 k (by omega); simpa [cg_ss, cg_cs, ct_ss, ct_cs, hkn] using h
  · simpa [cg_ss, cg_cs, ct_ss, ct_cs] using hr11
  · simpa [cg_ss, cg_cs, ct_ss, ct_cs] using hr18
  · simpa [cg_ss, cg_cs, ct_ss, ct_cs] using hr23
  · simpa [cg_ss, cg_cs, ct_ss, ct_cs] using hz21
  · simpa [cg_ss, cg_cs, ct_ss, ct_cs] using hz28
  · simpa [cg_ss, cg_cs, ct_ss, ct_cs] using hlb
theorem q_inv_sess {p m : Int32} (h : q_inv N x) (hp : q_ref p (ct x 2)) (hm : q_ref m (ct x 4)) : q_inv (N + 1) (ss (cs (cs (cs (cs (cs x 23 (ct x 29) p) 24 (ct x 29) m) 25 (ct x 29) 1) 26 (ct x 29) (q_now x)) 27 (ct x 29) (-1)) 29 (ct x 29 + 1)) := by
  obtain ⟨⟨i2, i4, i5, i10, i17, i22, i29, i32⟩, hr3, hr6, hr11, hr18, hr23, hz21, hz28, hlb⟩ := h
  have eo : q_opn (ss (cs (cs (cs (cs (cs x 23 (ct x 29) p) 24 (ct x 29) m) 25 (ct x 29) 1) 26 (ct x 29) (q_now x)) 27 (ct x 29) (-1)) 29 (ct x 29 + 1)) (ct x 29 + 1) = q_opn x (ct x 29) + 1 := by
    rw [q_opn, q_opn_congr (y := x) (n := ct x 29) (fun k hk => by simp [cg_ss, cg_cs, ct_ss, ct_cs, Nat.ne_of_lt hk])]
    simp [cg_ss, cg_cs, ct_ss, ct_cs]
  refine ⟨?_, ?_, ?_, ?_, ?_, ?_, ?_, ?_, ?_⟩
  · refine ⟨by simpa [cg_ss, cg_cs, ct_ss, ct_cs] using i2, by simpa [cg_ss, cg_cs, ct_ss, ct_cs] using i4, by simpa [cg_ss, cg_cs, ct_ss, ct_cs] using i5, by simp [cg_ss, cg_cs, ct_ss, ct_cs]; omega, by simp [cg_ss, cg_cs, ct_ss, ct_cs]; omega, by simp [cg_ss, cg_cs, ct_ss, ct_cs]; omega, by simp [cg_ss, cg_cs, ct_ss, ct_cs]; omega, ?_⟩
    rw [show ct (ss (cs (cs (cs (cs (cs x 23 (ct x 29) p) 24 (ct x 29) m) 25 (ct x 29) 1) 26 (ct x 29) (q_now x)) 27 (ct x 29) (-1)) 29 (ct x 29 + 1)) 29 = ct x 29 + 1 by simp [cg_ss, cg_cs, ct_ss, ct_cs], eo, show ct (ss (cs (cs (cs (cs (cs x 23 (ct x 29) p) 24 (ct x 29) m) 25 (ct x 29) 1) 26 (ct x 29) (q_now x)) 27 (ct x 29) (-1)) 29 (ct x 29 + 1)) 32 = ct x 32 by simp [cg_ss, cg_cs, ct_ss, ct_cs]]; omega
  · simpa [cg_ss, cg_cs, ct_ss, ct_cs] using hr3
  · simpa [cg_ss, cg_cs, ct_ss, ct_cs] using hr6
  · simpa [cg_ss, cg_cs, ct_ss, ct_cs] using hr11
  · simpa [cg_ss, cg_cs, ct_ss, ct_cs] using hr18
  · intro k hk
    have hk : k < ct x 29 + 1 := by simpa [cg_ss, cg_cs, ct_ss, ct_cs] using hk
    by_cases hkn : k = ct x 29
    · simpa [cg_ss, cg_cs, ct_ss, ct_cs, hkn] using And.intro hp hm
    · have h := hr23 k (by omega); simpa [cg_ss, cg_cs, ct_ss, ct_cs, hkn] using h
  · simpa [cg_ss, cg_cs, ct_ss, ct_cs] using hz21
  · intro k hk
    have hk : ct x 29 + 1 ≤ k := by simpa [cg_ss, cg_cs, ct_ss, ct_cs] using hk
    have h := hz28 k (by omega)
    simpa [cg_ss, cg_cs, ct_ss, ct_cs] using h
  · simpa [cg_ss, cg_cs, ct_ss, ct_cs] using hlb
theorem q_inv_look {a : Nat} {v : Int32} (h : q_inv N x) (ha : a < ct x 22) : q_inv (N) (cs x 21 a v) := by
  obtain ⟨⟨i2, i4, i5, i10, i17, i22, i29, i32⟩, hr3, hr6, hr11, hr18, hr23, hz21, hz28, hlb⟩ := h
  have eo : q_opn (cs x 21 a v) (ct x 29) = q_opn x (ct x 29) := q_opn_congr (fun k _ => by simp [cg_ss, cg_cs, ct_ss, ct_cs])
  refine ⟨?_, ?_, ?_, ?_, ?_, ?_, ?_, ?_, ?_⟩
  · refine ⟨by simpa [cg_ss, cg_cs, ct_ss, ct_cs] using i2, by simpa [cg_ss, cg_cs, ct_ss, ct_cs] using i4, by simpa [cg_ss, cg_cs, ct_ss, ct_cs] using i5, by simpa [cg_ss, cg_cs, ct_ss, ct_cs] using i10, by simpa [cg_ss, cg_cs, ct_ss, ct_cs] using i17, by simpa [cg_ss, cg_cs, ct_ss, ct_cs] using i22, by simpa [cg_ss, cg_cs, ct_ss, ct_cs] using i29, ?_⟩
    rw [show ct (cs x 21 a v) 29 = ct x 29 by simp [cg_ss, cg_cs, ct_ss, ct_cs], eo, show ct (cs x 21 a v) 32 = ct x 32 by simp [cg_ss, cg_cs, ct_ss, ct_cs]]; exact i32
  · simpa [cg_ss, cg_cs, ct_ss, ct_cs] using hr3
  · simpa [cg_ss, cg_cs, ct_ss, ct_cs] using hr6
  · simpa [cg_ss, cg_cs, ct_ss, ct_cs] using hr11
  · simpa [cg_ss, cg_cs, ct_ss, ct_cs] using hr18
  · simpa [cg_ss, cg_cs, ct_ss, ct_cs] using hr23
  · intro k hk
    have hk : ct x 22 ≤ k := by simpa [cg_ss, cg_cs, ct_ss, ct_cs] using hk
    have h := hz21 k hk
    have hne : k ≠ a := by omega
    simpa [cg_ss, cg_cs, ct_ss, ct_cs, hne] using h
  · simpa [cg_ss, cg_cs, ct_ss, ct_cs] using hz28
  · simpa [cg_ss, cg_cs, ct_ss, ct_cs] using hlb
theorem q_inv_thru {a : Nat} {v : Int32} (h : q_inv N x) (ha : a < ct x 29) : q_inv (N) (cs x 28 a v) := by
  obtain ⟨⟨i2, i4, i5, i10, i17, i22, i29, i32⟩, hr3, hr6, hr11, hr18, hr23, hz21, hz28, hlb⟩ := h
  have eo : q_opn (cs x 28 a v) (ct x 29) = q_opn x (ct x 29) := q_opn_congr (fun k _ => by simp [cg_ss, cg_cs, ct_ss, ct_cs])
  refine ⟨?_, ?_, ?_, ?_, ?_, ?_, ?_, ?_, ?_⟩
  · refine ⟨by simpa [cg_ss, cg_cs, ct_ss, ct_cs] using i2, by simpa [cg_ss, cg_cs, ct_ss, ct_cs] using i4, by simpa [cg_ss, cg_cs, ct_ss, ct_cs] using i5, by simpa [cg_ss, cg_cs, ct_ss, ct_cs] using i10, by simpa [cg_ss, cg_cs, ct_ss, ct_cs] using i17, by simpa [cg_ss, cg_cs, ct_ss, ct_cs] using i22, by simpa [cg_ss, cg_cs, ct_ss, ct_cs] using i29, ?_⟩
    rw [show ct (cs x 28 a v) 29 = ct x 29 by simp [cg_ss, cg_cs, ct_ss, ct_cs], eo, show ct (cs x 28 a v) 32 = ct x 32 by simp [cg_ss, cg_cs, ct_ss, ct_cs]]; exact i32
  · simpa [cg_ss, cg_cs, ct_ss, ct_cs] using hr3
  · simpa [cg_ss, cg_cs, ct_ss, ct_cs] using hr6
  · simpa [cg_ss, cg_cs, ct_ss, ct_cs] using hr11
  · simpa [cg_ss, cg_cs, ct_ss, ct_cs] using hr18
  · simpa [cg_ss, cg_cs, ct_ss, ct_cs] using hr23
  · simpa [cg_ss, cg_cs, ct_ss, ct_cs] using hz21
  · intro k hk
    have hk : ct x 29 ≤ k := by simpa [cg_ss, cg_cs, ct_ss, ct_cs] using hk
    have h := hz28 k hk
    have hne : k ≠ a := by omega
    simpa [cg_ss, cg_cs, ct_ss, ct_cs, hne] using h
  · simpa [cg_ss, cg_cs, ct_ss, ct_cs] using hlb
theorem q_inv_fa {a : Nat} {v : Int32} (h : q_inv N x) (hv : q_ref v (ct x 2)) : q_inv (N) (cs x 16 a v) := by
  obtain ⟨⟨i2, i4, i5, i10, i17, i22, i29, i32⟩, hr3, hr6, hr11, hr18, hr23, hz21, hz28, hlb⟩ := h
  have eo : q_opn (cs x 16 a v) (ct x 29) = q_opn x (ct x 29) := q_opn_congr (fun k _ => by simp [cg_ss, cg_cs, ct_ss, ct_cs])
  refine ⟨?_, ?_, ?_, ?_, ?_, ?_, ?_, ?_, ?_⟩
  · refine ⟨by simpa [cg_ss, cg_cs, ct_ss, ct_cs] using i2, by simpa [cg_ss, cg_cs, ct_ss, ct_cs] using i4, by simpa [cg_ss, cg_cs, ct_ss, ct_cs] using i5, by simpa [cg_ss, cg_cs, ct_ss, ct_cs] using i10, by simpa [cg_ss, cg_cs, ct_ss, ct_cs] using i17, by simpa [cg_ss, cg_cs, ct_ss, ct_cs] using i22, by simpa [cg_ss, cg_cs, ct_ss, ct_cs] using i29, ?_⟩
    rw [show ct (cs x 16 a v) 29 = ct x 29 by simp [cg_ss, cg_cs, ct_ss, ct_cs], eo, show ct (cs x 16 a v) 32 = ct x 32 by simp [cg_ss, cg_cs, ct_ss, ct_cs]]; exact i32
  · simpa [cg_ss, cg_cs, ct_ss, ct_cs] using hr3
  · simpa [cg_ss, cg_cs, ct_ss, ct_cs] using hr6
  · intro k hk
    have h := hr11 k (by simpa [cg_ss, cg_cs, ct_ss, ct_cs] using hk)
    by_cases hka : k = a
    · simpa [cg_ss, cg_cs, ct_ss, ct_cs, hka] using (⟨hka ▸ h.1, hka ▸ h.2.1, hka ▸ h.2.2.1, Or.inr hv⟩ : q_ref (cg x 11 a) (ct x 2) ∧ q_ref (cg x 12 a) (ct x 4) ∧ q_ref (cg x 14 a) (ct x 5 + 1) ∧ (v = -1 ∨ q_ref v (ct x 2)))
    · simpa [cg_ss, cg_cs, ct_ss, ct_cs, hka] using h
  · simpa [cg_ss, cg_cs, ct_ss, ct_cs] using hr18
  · simpa [cg_ss, cg_cs, ct_ss, ct_cs] using hr23
  · simpa [cg_ss, cg_cs, ct_ss, ct_cs] using hz21
  · simpa [cg_ss, cg_cs, ct_ss, ct_cs] using hz28
  · simpa [cg_ss, cg_cs, ct_ss, ct_cs] using hlb
theorem q_ix_ref {v : Int32} {n : Nat} (hn : n < 2 ^ 31) (h : q_ix v n = true) : q_ref v n := (q_ix_iff hn).mp h
theorem q_both_ref {p m : Int32} (h2 : ct x 2 < 2 ^ 31) (h4 : ct x 4 < 2 ^ 31) (h : q_both x p m = true) : q_ref p (ct x 2) ∧ q_ref m (ct x 4) := by
  unfold q_both at h
  rw [Bool.and_eq_true] at h
  exact ⟨q_ix_ref h2 h.1, q_ix_ref h4 h.2⟩
def q_ok (N : Nat) (x : s_T) : Prop := q_inv N x ∧ q_zl x
theorem q_ok.lt (h : q_ok N x) : ct x 2 < 2 ^ 31 ∧ ct x 4 < 2 ^ 31 := ⟨by have := h.1.1.1; omega, by have := h.1.1.2.1; omega⟩
theorem st_addPerson {t : Int32} (h : q_ok N x) (hc : f_addPerson_c x t = 0) : q_ok (N + 1) (f_addPerson_s x t) := by
  obtain ⟨h1, h2, -⟩ := q_code_ok hc
  exact ⟨q_inv_person h.1 (of_decide_eq_true h2), q_zl_sim h.2 (by funext k; simp [f_addPerson_s, cg_ss, cg_cs]) (by simp [f_addPerson_s, ct_ss, ct_cs])⟩
theorem st_addMachine {t : Int32} (h : q_ok N x) (hc : f_addMachine_c x t = 0) : q_ok (N + 1) (f_addMachine_s x t) := by
  obtain ⟨h1, h2, -⟩ := q_code_ok hc
  obtain ⟨u, -, hu, rfl⟩ := q_in_of (lo := 0) (hi := 3) (by decide) h1 (by decide)
  exact ⟨q_inv_machine h.1 (of_decide_eq_true h2) ⟨u, by omega, rfl⟩, q_zl_sim h.2 (by funext k; simp [f_addMachine_s, cg_ss, cg_cs]) (by simp [f_addMachine_s, ct_ss, ct_cs])⟩
theorem q_zl_lab {j t : Nat} {b : Bool} (h : q_zl x) (hj : j < ct x 2) (ht : t < 4) : q_zl (cs x 1 (4 * j + t) (bI b)) := fun k hk => by
  have hk : 4 * ct x 2 ≤ k := hk
  rw [cg_cs, if_pos rfl, if_neg (by omega)]
  exact h k hk
theorem q_strip_cg (x : s_T) (p l : Int32) {c : Nat} (h9 : c ≠ 9) (h15 : c ≠ 15) : ∀ k, cg (q_strip x p l k) c = cg x c
  | 0 => rfl
  | k + 1 => by
    have ih := q_strip_cg x p l h9 h15 k
    by_cases h : cg (q_strip x p l k) 3 k = l
    · rw [q_strip_t h, ← ih]
      funext i
      unfold q_denies q_ends
      rw [cg_cf, if_neg h15, cg_cf, if_neg h9]
    · rw [q_strip_f h]
      exact ih
theorem q_closes_cg {a : Int32} {c : Nat} (h25 : c ≠ 25) (h27 : c ≠ 27) (h30 : c ≠ 30) (h31 : c ≠ 31) : cg (q_closes x a).1 c = cg x c := funext fun i => (q_al_close x a (ct x 29)).2 c h25 h27 h30 h31 i
theorem st_setLabelT {p l : Int32} (h : q_ok N x) (hc : f_setLabel_c x p l = 0) : q_ok (N + 1) (f_setLabel_s x p l true).1 := by
  obtain ⟨h1, h2, -⟩ := q_code_ok hc
  obtain ⟨j, hj, rfl⟩ := q_ix_ref h.lt.1 h1
  obtain ⟨u, -, hu, rfl⟩ := q_in_of (lo := 0) (hi := 3) (by decide) h2 (by decide)
  have e : (f_setLabel_s x (nI j) (nI u) true).1 = cs x 1 (4 * j + u) (bI true) := by
    unfold f_setLabel_s
    rw [if_pos rfl, pn_nI (by have := h.lt.1; omega), pn_nI (by omega)]
    rfl
  rw [e]
  exact ⟨q_inv_mono (q_inv_lab h.1 _ _) (Nat.le_succ _), q_zl_lab h.2 hj (by omega)⟩
theorem st_setLabelF {p l : Int32} (h : q_ok N x) (hc : f_setLabel_c x p l = 0) : q_ok (N + 1) (f_setLabel_s x p l false).1 := by
  obtain ⟨h1, h2, -⟩ := q_code_ok hc
  obtain ⟨j, hj, rfl⟩ := q_ix_ref h.lt.1 h1
  obtain ⟨u, -, hu, rfl⟩ := q_in_of (lo := 0) (hi := 3) (by decide) h2 (by decide)
  have e : (f_setLabel_s x (nI j) (nI u) false).1 = (q_closes (q_strip (cs x 1 (4 * j + u) (bI false)) (nI j) (nI u) (ct x 4)) (-1)).1 := by
    unfold f_setLabel_s
    rw [if_neg (fun z => by cases z), pn_nI (by have := h.lt.1; omega), pn_nI (by omega)]
    rfl
  rw [e]
  refine ⟨q_inv_mono (q_inv_closes (q_inv_strip (q_inv_lab h.1 _ _) _ _ _) _) (Nat.le_succ _), ?_⟩
  refine q_zl_sim (q_zl_lab (b := false) h.2 hj (show u < 4 by omega)) ?_ (Nat.le_of_eq ?_)
  · rw [q_closes_cg (by decide) (by decide) (by decide) (by decide), q_strip_cg _ _ _ (by decide) (by decide)]
  · rw [q_closes_ct (by decide), q_strip_ct]
theorem st_takeAway {p m : Int32} (h : q_ok N x) : q_ok (N + 1) (f_takeAway_s x p m).1 := by
  unfold f_takeAway_s
  refine ⟨q_inv_mono (q_inv_closes (q_inv_denies (q_inv_ends h.1 _ _) _ _) _) (Nat.le_succ _), q_zl_sim h.2 ?_ (Nat.le_of_eq ?_)⟩
  · rw [q_closes_cg (by decide) (by decide) (by decide) (by decide)]
    funext i
    unfold q_denies q_ends
    rw [cg_cf, if_neg (by decide), cg_cf, if_neg (by decide)]
  · rw [q_closes_ct (by decide)]
    rfl
theorem q_write_zl {kd p m : Int32} (h : q_zl x) : q_zl (q_write x kd p m) := q_zl_sim h (by funext i; unfold q_write; rw [cg_ss, cg_cs, if_neg (by decide), cg_cs, if_neg (by decide)]) (Nat.le_of_eq rfl)
theorem st_ask {p m t : Int32} (h : q_ok N x) (hc : f_ask_c x p m t = 0) : q_ok (N + 1) (f_ask_s x p m t) := by
  obtain ⟨h1, -, -⟩ := q_code_ok hc
  obtain ⟨hp, hm⟩ := q_both_ref h.lt.1 h.lt.2 h1
  have hi := q_inv_ask (t := t) h.1 hp hm
  have hb := h.1.1.2.2.2.2.2.2.2
  have eo : ∀ n, q_opn (ss (cs (cs (cs (cs (cs (cs x 11 (ct x 17) p) 12 (ct x 17) m) 13 (ct x 17) t) 14 (ct x 17) (q_now x)) 15 (ct x 17) 0) 16 (ct x 17) (-1)) 17 (ct x 17 + 1)) n = q_opn x n := fun n => q_opn_congr (fun k _ => by simp [cg_ss, cg_cs])
  refine ⟨q_inv_writeK hi ?_, q_write_zl (q_zl_sim h.2 (by funext i; simp [cg_ss, cg_cs]) (by simp [ct_ss, ct_cs]))⟩
  rw [eo]
  simp only [ct_ss, ct_cs]
  simp
  omega
theorem q_jud_ref {a b : Int32} (h17 : ct x 17 < 2 ^ 31) (h2 : ct x 2 < 2 ^ 31) (h : (q_ix a (ct x 17) && q_ix b (ct x 2)) = true) : (∃ j, j < ct x 17 ∧ a = nI j) ∧ q_ref b (ct x 2) := by
  rw [Bool.and_eq_true] at h
  exact ⟨q_ix_ref h17 h.1, q_ix_ref h2 h.2⟩
theorem st_approve {a b : Int32} (h : q_ok N x) (hN : N ≤ 511) (hc : f_approve_c x a b = 0) : q_ok (N + 1) (f_approve_s x a b).1 := by
  obtain ⟨h1, -, -⟩ := q_code_ok hc
  have hb := h.1.1
  obtain ⟨⟨j, hj, rfl⟩, hbr⟩ := q_jud_ref (by omega) h.lt.1 h1
  have hw := q_inv_write h.1 1 b (cg x 12 (pn (nI j)))
  have hz := q_write_zl (kd := 1) (p := b) (m := cg x 12 (pn (nI j))) h.2
  unfold f_approve_s
  split
  · refine ⟨q_inv_fa hw hbr, q_zl_sim hz (by funext i; simp [cg_cs]) (Nat.le_of_eq rfl)⟩
  · have pj : pn (nI j) = j := pn_nI (by omega)
    obtain ⟨r11, r12, -, -⟩ := h.1.2.2.2.1 j hj
    refine ⟨q_inv_grant (q_inv_cs hw (c := 15) _ _ (by decide) (by decide)) ?_ ?_ ?_, q_zl_sim hz (by funext i; simp [q_grant, cg_ss, cg_cs]) (by simp [q_grant, ct_ss, ct_cs])⟩
    · show ct x 10 + 1 ≤ N + 1
      omega
    · rw [pj]; exact r11
    · rw [pj]; exact r12
theorem st_deny {a b : Int32} (h : q_ok N x) : q_ok (N + 1) (f_deny_s x a b) :=
  ⟨q_inv_write (q_inv_cs h.1 (c := 15) _ _ (by decide) (by decide)) _ _ _, q_write_zl (q_zl_sim h.2 (by funext i; simp [cg_cs]) (Nat.le_of_eq rfl))⟩
theorem st_enter {p m : Int32} (h : q_ok N x) (hc : f_enter_c x p m = 0) : q_ok (N + 1) (f_enter_s x p m) := by
  obtain ⟨h1, -, -⟩ := q_code_ok hc
  obtain ⟨hp, hm⟩ := q_both_ref h.lt.1 h.lt.2 h1
  have hb := h.1.1
  obtain ⟨j, hj, rfl⟩ := id hp
  obtain ⟨u, hu, rfl⟩ := id hm
  have hi := q_inv_entry h.1 hj hu
  have hg := q_inv_grant (p := nI j) (m := nI u) (t := 30) hi (by show ct x 10 + 1 ≤ N + 1; omega) hp hm
  refine ⟨q_inv_writeK hg ?_, q_write_zl (q_zl_sim h.2 (by funext i; simp [q_grant, cg_ss, cg_cs]) (by simp [q_grant, ct_ss, ct_cs]))⟩
  have eo : ∀ n, q_opn (q_grant (ss (cs (cs (cs x 18 (ct x 22) (nI j)) 19 (ct x 22) (nI u)) 20 (ct x 22) (q_now x)) 22 (ct x 22 + 1)) (nI j) (nI u) 30) n = q_opn x n := fun n => q_opn_congr (fun k _ => by simp [q_grant, cg_ss, cg_cs])
  rw [eo]
  simp only [q_grant, ct_ss, ct_cs]
  simp
  omega
theorem st_lookAt {a b : Int32} (h : q_ok N x) (hN : N ≤ 511) (hc : f_lookAt_c x a b = 0) : q_ok (N + 1) (f_lookAt_s x a b) := by
  obtain ⟨h1, -, -⟩ := q_code_ok hc
  have hb := h.1.1
  rw [Bool.and_eq_true] at h1
  obtain ⟨j, hj, rfl⟩ := q_ix_ref (by omega) h1.1
  have pj : pn (nI j) = j := pn_nI (by omega)
  unfold f_lookAt_s
  rw [pj]
  exact ⟨q_inv_write (q_inv_look h.1 hj) _ _ _, q_write_zl (q_zl_sim h.2 (by funext i; simp [cg_cs]) (Nat.le_of_eq rfl))⟩
theorem st_open {p m : Int32} (h : q_ok N x) (hc : f_open_c x p m = 0) : q_ok (N + 1) (f_open_s x p m) := by
  obtain ⟨h1, -, -⟩ := q_code_ok hc
  obtain ⟨hp, hm⟩ := q_both_ref h.lt.1 h.lt.2 h1
  have hi := q_inv_sess h.1 hp hm
  have hb := h.1.1
  have eo : q_opn (ss (cs (cs (cs (cs (cs x 23 (ct x 29) p) 24 (ct x 29) m) 25 (ct x 29) 1) 26 (ct x 29) (q_now x)) 27 (ct x 29) (-1)) 29 (ct x 29 + 1)) (ct x 29 + 1) = q_opn x (ct x 29) + 1 := by
    rw [q_opn, q_opn_congr (y := x) (n := ct x 29) (fun k hk => by simp [cg_ss, cg_cs, Nat.ne_of_lt hk])]
    simp [cg_ss, cg_cs]
  refine ⟨q_inv_writeK hi ?_, q_write_zl (q_zl_sim h.2 (by funext i; simp [cg_ss, cg_cs]) (by simp [ct_ss, ct_cs]))⟩
  rw [show ct (ss (cs (cs (cs (cs (cs x 23 (ct x 29) p) 24 (ct x 29) m) 25 (ct x 29) 1) 26 (ct x 29) (q_now x)) 27 (ct x 29) (-1)) 29 (ct x 29 + 1)) 29 = ct x 29 + 1 by simp [ct_ss, ct_cs], eo, show ct (ss (cs (cs (cs (cs (cs x 23 (ct x 29) p) 24 (ct x 29) m) 25 (ct x 29) 1) 26 (ct x 29) (q_now x)) 27 (ct x 29) (-1)) 29 (ct x 29 + 1)) 32 = ct x 32 by simp [ct_ss, ct_cs]]
  omega
theorem st_type {a k : Int32} (h : q_ok N x) (hN : N ≤ 511) (hc : f_type_c x a k = 0) : q_ok (N + 1) (f_type_s x a k) := by
  obtain ⟨h1, -, -⟩ := q_code_ok hc
  have hb := h.1.1
  obtain ⟨j, hj, rfl⟩ := q_ix_ref (by omega) h1
  have pj : pn (nI j) = j := pn_nI (by omega)
  have hw : q_inv (N + 1) (f_type_y x (nI j)) := q_inv_write (q_inv_cs h.1 (c := 26) _ _ (by decide) (by decide)) _ _ _
  have hz : q_zl (f_type_y x (nI j)) := q_write_zl (q_zl_sim h.2 (by funext i; simp [cg_cs]) (Nat.le_of_eq rfl))
  unfold f_type_s
  split
  · rw [pj]
    exact ⟨q_inv_thru hw hj, q_zl_sim hz (by funext i; simp [cg_cs]) (Nat.le_of_eq rfl)⟩
  · split
    · exact ⟨q_inv_cs hw (c := 27) _ _ (by decide) (by decide), q_zl_sim hz (by funext i; simp [cg_cs]) (Nat.le_of_eq rfl)⟩
    · refine ⟨q_inv_closes (q_inv_ends hw _ _) _, q_zl_sim hz ?_ (Nat.le_of_eq ?_)⟩
      · rw [q_closes_cg (by decide) (by decide) (by decide) (by decide)]
        funext i
        unfold q_ends
        rw [cg_cf, if_neg (by decide)]
      · rw [q_closes_ct (by decide)]
        rfl
theorem st_letThrough {a b : Int32} (h : q_ok N x) (hN : N ≤ 511) (hc : f_letThrough_c x a b = 0) : q_ok (N + 1) (f_letThrough_s x a b) := by
  obtain ⟨h1, -, -⟩ := q_code_ok hc
  have hb := h.1.1
  rw [Bool.and_eq_true] at h1
  obtain ⟨j, hj, rfl⟩ := q_ix_ref (by omega) h1.1
  have pj : pn (nI j) = j := pn_nI (by omega)
  unfold f_letThrough_s
  rw [pj]
  exact ⟨q_inv_write (q_inv_thru (q_inv_cs h.1 (c := 27) _ _ (by decide) (by decide)) hj) _ _ _, q_write_zl (q_zl_sim h.2 (by funext i; simp [cg_cs]) (Nat.le_of_eq rfl))⟩
theorem st_close {a : Int32} (h : q_ok N x) (hN : N ≤ 511) (hc : f_close_c x a = 0) : q_ok (N + 1) (q_shut x (pn a)) := by
  obtain ⟨-, h2, -⟩ := q_code_ok hc
  have hb := h.1.1
  rw [Bool.and_eq_true] at h2
  obtain ⟨j, hj, rfl⟩ := q_ix_ref (by omega) h2.1
  have pj : pn (nI j) = j := pn_nI (by omega)
  have h3 := of_decide_eq_true h2.2
  rw [pj] at h3 ⊢
  exact ⟨q_inv_mono (q_inv_shut h.1 hj h3) (Nat.le_succ _), q_write_zl (q_zl_sim h.2 (by funext i; simp [cg_cs]) (Nat.le_of_eq rfl))⟩
theorem st_pass {t : Int32} (h : q_ok N x) (hc : f_pass_c x t = 0) : q_ok (N + 1) (f_pass_s x t) := by
  obtain ⟨h1, h2, -⟩ := q_code_ok hc
  rw [Bool.and_eq_true] at h2
  obtain ⟨n, hn1, hn2, rfl⟩ := q_in_of (lo := 1) (hi := 3000) (by decide) h1 (by decide)
  have hb := h.1.1
  have g3 : ct x 5 + n ≤ 100000 := by
    have g4 := of_decide_eq_true h2.2
    rw [nI_add] at g4
    exact (nI_leI (by omega) (by decide)).mp g4
  unfold f_pass_s
  rw [pn_nI (by omega)]
  refine ⟨q_inv_mono (q_inv_cf (q_inv_tick h.1 n g3) _ (by decide) (by decide)) (Nat.le_succ _), q_zl_sim h.2 ?_ (Nat.le_of_eq ?_)⟩
  · unfold q_lapse
    rw [← q_tick_cg x (c := 1) (by decide) (by decide) (by decide) (by decide) n]
    funext i
    rw [cg_cf, if_neg (by decide)]
  · show ct x 2 = ct (q_tick x n).1 2
    rw [q_tick_ct x (by decide) (by decide)]
theorem st_same (h : q_ok N x) : q_ok (N + 1) x := ⟨q_inv_mono h.1 (Nat.le_succ _), h.2⟩
theorem q_ok_0 : q_ok 0 s_0 := by
  refine ⟨⟨⟨Nat.zero_le _, Nat.zero_le _, Nat.zero_le _, Nat.le_refl _, Nat.le_refl _, Nat.le_refl _, Nat.le_refl _, Nat.le_refl _⟩, fun k hk => absurd hk (Nat.not_lt_zero _), fun k hk => absurd hk (Nat.not_lt_zero _), fun k hk => absurd hk (Nat.not_lt_zero _), fun k hk => absurd hk (Nat.not_lt_zero _), fun k hk => absurd hk (Nat.not_lt_zero _), fun k _ => rfl, fun k _ => rfl, fun k => Or.inl rfl⟩, fun k _ => rfl⟩
end ST5
