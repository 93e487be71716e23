section L75
variable {x y : s_T} {z : Nat → Nat → Int32}
/-- a session that is closed holds no line -/
def LH (x : s_T) : Prop := ∀ k, k < ct x 29 → cg x 25 k = 0 → cg x 27 k = -1
def LSt (N T : Nat) (x : s_T) (z : Nat → Nat → Int32) : Prop := LR x z ∧ LI x ∧ q_ok N x ∧ ct x 5 = T ∧ LH x
set_option maxHeartbeats 4000000 in
theorem LR.ask0 {p m t : Nat} (h : LR x z) : LR (ss (cs (cs (cs (cs (cs (cs x 11 (ct x 17) (nI p)) 12 (ct x 17) (nI m)) 13 (ct x 17) (nI t)) 14 (ct x 17) (q_now x)) 15 (ct x 17) 0) 16 (ct x 17) (-1)) 17 (ct x 17 + 1)) (zs (zs (zs (zs (zs (zs z 4 (5 * ct x 17) (nI (8 * p + m))) 4 (5 * ct x 17 + 1) (nI t)) 4 (5 * ct x 17 + 2) (nI (ct x 5))) 4 (5 * ct x 17 + 3) (0)) 4 (5 * ct x 17 + 4) (0)) 2 4 (nI (ct x 17 + 1))) := by
  obtain ⟨h0, h1, ⟨a0, a1, a2, a3, a4, a5, a6, a7, a8⟩, h3, h4, h5, h6⟩ := h
  refine ⟨h0, h1, ⟨a0, a1, a2, a3, rfl, a5, a6, a7, a8⟩, h3, fun k hk => ?_, h5, h6⟩
  have hk : k < ct x 17 + 1 := hk
  by_cases hn : k = ct x 17
  · subst hn
    refine ⟨?_, ?_, ?_, ?_, ?_⟩
    · rw [zs_get, if_neg (by decide), zs_get, if_pos rfl, if_neg (by omega), zs_get, if_pos rfl, if_neg (by omega), zs_get, if_pos rfl, if_neg (by omega), zs_get, if_pos rfl, if_neg (by omega), zs_get, if_pos rfl, if_pos rfl]
      simp [cg_ss, cg_cs, l_pr]
    · rw [zs_get, if_neg (by decide), zs_get, if_pos rfl, if_neg (by omega), zs_get, if_pos rfl, if_neg (by omega), zs_get, if_pos rfl, if_neg (by omega), zs_get, if_pos rfl, if_pos rfl]
      simp [cg_ss, cg_cs]
    · rw [zs_get, if_neg (by decide), zs_get, if_pos rfl, if_neg (by omega), zs_get, if_pos rfl, if_neg (by omega), zs_get, if_pos rfl, if_pos rfl]
      simp [cg_ss, cg_cs]
    · rw [zs_get, if_neg (by decide), zs_get, if_pos rfl, if_neg (by omega), zs_get, if_pos rfl, if_pos rfl]
      simp [cg_ss, cg_cs]
    · rw [zs_get, if_neg (by decide), zs_get, if_pos rfl, if_pos rfl]
      simp [cg_ss, cg_cs]
  · have q := h4 k (by omega)
    refine ⟨?_, ?_, ?_, ?_, ?_⟩
    · rw [zs_get, if_neg (by decide), zs_get, if_pos rfl, if_neg (by omega), zs_get, if_pos rfl, if_neg (by omega), zs_get, if_pos rfl, if_neg (by omega), zs_get, if_pos rfl, if_neg (by omega), zs_get, if_pos rfl, if_neg (by omega), q.1]; simp [cg_ss, cg_cs, hn]
    · rw [zs_get, if_neg (by decide), zs_get, if_pos rfl, if_neg (by omega), zs_get, if_pos rfl, if_neg (by omega), zs_get, if_pos rfl, if_neg (by omega), zs_get, if_pos rfl, if_neg (by omega), zs_get, if_pos rfl, if_neg (by omega), q.2.1]; simp [cg_ss, cg_cs, hn]
    · rw [zs_get, if_neg (by decide), zs_get, if_pos rfl, if_neg (by omega), zs_get, if_pos rfl, if_neg (by omega), zs_get, if_pos rfl, if_neg (by omega), zs_get, if_pos rfl, if_neg (by omega), zs_get, if_pos rfl, if_neg (by omega), q.2.2.1]; simp [cg_ss, cg_cs, hn]
    · rw [zs_get, if_neg (by decide), zs_get, if_pos rfl, if_neg (by omega), zs_get, if_pos rfl, if_neg (by omega), zs_get, if_pos rfl, if_neg (by omega), zs_get, if_pos rfl, if_neg (by omega), zs_get, if_pos rfl, if_neg (by omega), q.2.2.2.1]; simp [cg_ss, cg_cs, hn]
    · rw [zs_get, if_neg (by decide), zs_get, if_pos rfl, if_neg (by omega), zs_get, if_pos rfl, if_neg (by omega), zs_get, if_pos rfl, if_neg (by omega), zs_get, if_pos rfl, if_neg (by omega), zs_get, if_pos rfl, if_neg (by omega), q.2.2.2.2]; simp [cg_ss, cg_cs, hn]
set_option maxHeartbeats 4000000 in
theorem LR.ent0 {p m : Nat} (h : LR x z) (hz : cg x 21 (ct x 22) = 0) : LR (ss (cs (cs (cs x 18 (ct x 22) (nI p)) 19 (ct x 22) (nI m)) 20 (ct x 22) (q_now x)) 22 (ct x 22 + 1)) (zs (zs (zs (zs z 5 (3 * ct x 22) (nI (8 * p + m))) 5 (3 * ct x 22 + 1) (nI (ct x 5))) 5 (3 * ct x 22 + 2) (0)) 2 5 (nI (ct x 22 + 1))) := by
  obtain ⟨h0, h1, ⟨a0, a1, a2, a3, a4, a5, a6, a7, a8⟩, h3, h4, h5, h6⟩ := h
  refine ⟨h0, h1, ⟨a0, a1, a2, a3, a4, rfl, a6, a7, a8⟩, h3, h4, fun k hk => ?_, h6⟩
  have hk : k < ct x 22 + 1 := hk
  by_cases hn : k = ct x 22
  · subst hn
    refine ⟨?_, ?_, ?_⟩
    · rw [zs_get, if_neg (by decide), zs_get, if_pos rfl, if_neg (by omega), zs_get, if_pos rfl, if_neg (by omega), zs_get, if_pos rfl, if_pos rfl]
      simp [cg_ss, cg_cs, l_pr]
    · rw [zs_get, if_neg (by decide), zs_get, if_pos rfl, if_neg (by omega), zs_get, if_pos rfl, if_pos rfl]
      simp [cg_ss, cg_cs]
    · rw [zs_get, if_neg (by decide), zs_get, if_pos rfl, if_pos rfl]
      simp [cg_ss, cg_cs, hz]
  · have q := h5 k (by omega)
    refine ⟨?_, ?_, ?_⟩
    · rw [zs_get, if_neg (by decide), zs_get, if_pos rfl, if_neg (by omega), zs_get, if_pos rfl, if_neg (by omega), zs_get, if_pos rfl, if_neg (by omega), q.1]; simp [cg_ss, cg_cs, hn]
    · rw [zs_get, if_neg (by decide), zs_get, if_pos rfl, if_neg (by omega), zs_get, if_pos rfl, if_neg (by omega), zs_get, if_pos rfl, if_neg (by omega), q.2.1]; simp [cg_ss, cg_cs, hn]
    · rw [zs_get, if_neg (by decide), zs_get, if_pos rfl, if_neg (by omega), zs_get, if_pos rfl, if_neg (by omega), zs_get, if_pos rfl, if_neg (by omega), q.2.2]; simp [cg_ss, cg_cs, hn]
set_option maxHeartbeats 4000000 in
theorem LR.open0 {p m : Nat} (h : LR x z) (hz : cg x 28 (ct x 29) = 0) : LR (ss (cs (cs (cs (cs (cs x 23 (ct x 29) (nI p)) 24 (ct x 29) (nI m)) 25 (ct x 29) 1) 26 (ct x 29) (q_now x)) 27 (ct x 29) (-1)) 29 (ct x 29 + 1)) (zs (zs (zs (zs (zs (zs z 6 (5 * ct x 29) (nI (8 * p + m))) 6 (5 * ct x 29 + 1) (1)) 6 (5 * ct x 29 + 2) (nI (ct x 5))) 6 (5 * ct x 29 + 3) (0)) 6 (5 * ct x 29 + 4) (0)) 2 6 (nI (ct x 29 + 1))) := by
  obtain ⟨h0, h1, ⟨a0, a1, a2, a3, a4, a5, a6, a7, a8⟩, h3, h4, h5, h6⟩ := h
  refine ⟨h0, h1, ⟨a0, a1, a2, a3, a4, a5, rfl, a7, a8⟩, h3, h4, h5, fun k hk => ?_⟩
  have hk : k < ct x 29 + 1 := hk
  by_cases hn : k = ct x 29
  · subst hn
    refine ⟨?_, ?_, ?_, ?_, ?_⟩
    · rw [zs_get, if_neg (by decide), zs_get, if_pos rfl, if_neg (by omega), zs_get, if_pos rfl, if_neg (by omega), zs_get, if_pos rfl, if_neg (by omega), zs_get, if_pos rfl, if_neg (by omega), zs_get, if_pos rfl, if_pos rfl]
      simp [cg_ss, cg_cs, l_pr]
    · rw [zs_get, if_neg (by decide), zs_get, if_pos rfl, if_neg (by omega), zs_get, if_pos rfl, if_neg (by omega), zs_get, if_pos rfl, if_neg (by omega), zs_get, if_pos rfl, if_pos rfl]
      simp [cg_ss, cg_cs]
    · rw [zs_get, if_neg (by decide), zs_get, if_pos rfl, if_neg (by omega), zs_get, if_pos rfl, if_neg (by omega), zs_get, if_pos rfl, if_pos rfl]
      simp [cg_ss, cg_cs]
    · rw [zs_get, if_neg (by decide), zs_get, if_pos rfl, if_neg (by omega), zs_get, if_pos rfl, if_pos rfl]
      simp [cg_ss, cg_cs]
    · rw [zs_get, if_neg (by decide), zs_get, if_pos rfl, if_pos rfl]
      simp [cg_ss, cg_cs, hz]
  · have q := h6 k (by omega)
    refine ⟨?_, ?_, ?_, ?_, ?_⟩
    · rw [zs_get, if_neg (by decide), zs_get, if_pos rfl, if_neg (by omega), zs_get, if_pos rfl, if_neg (by omega), zs_get, if_pos rfl, if_neg (by omega), zs_get, if_pos rfl, if_neg (by omega), zs_get, if_pos rfl, if_neg (by omega), q.1]; simp [cg_ss, cg_cs, hn]
    · rw [zs_get, if_neg (by decide), zs_get, if_pos rfl, if_neg (by omega), zs_get, if_pos rfl, if_neg (by omega), zs_get, if_pos rfl, if_neg (by omega), zs_get, if_pos rfl, if_neg (by omega), zs_get, if_pos rfl, if_neg (by omega), q.2.1]; simp [cg_ss, cg_cs, hn]
    · rw [zs_get, if_neg (by decide), zs_get, if_pos rfl, if_neg (by omega), zs_get, if_pos rfl, if_neg (by omega), zs_get, if_pos rfl, if_neg (by omega), zs_get, if_pos rfl, if_neg (by omega), zs_get, if_pos rfl, if_neg (by omega), q.2.2.1]; simp [cg_ss, cg_cs, hn]
    · rw [zs_get, if_neg (by decide), zs_get, if_pos rfl, if_neg (by omega), zs_get, if_pos rfl, if_neg (by omega), zs_get, if_pos rfl, if_neg (by omega), zs_get, if_pos rfl, if_neg (by omega), zs_get, if_pos rfl, if_neg (by omega), q.2.2.2.1]; simp [cg_ss, cg_cs, hn]
    · rw [zs_get, if_neg (by decide), zs_get, if_pos rfl, if_neg (by omega), zs_get, if_pos rfl, if_neg (by omega), zs_get, if_pos rfl, if_neg (by omega), zs_get, if_pos rfl, if_neg (by omega), zs_get, if_pos rfl, if_neg (by omega), q.2.2.2.2]; simp [cg_ss, cg_cs, hn]
theorem LI.write {k p m : Nat} (h : LI y) (h5 : ct y 5 ≤ 100000) (hk : k ≤ 8) (hp : p < 12) (hm : m < 8) : LI (q_write y (nI k) (nI p) (nI m)) := by
  obtain ⟨i2, i4, i10, i17, i22, i29, ilb, ⟨s, hs, es⟩, ie, is_⟩ := h
  refine ⟨i2, i4, i10, i17, i22, i29, ilb, ?_, ie, is_⟩
  rw [q_last_write, q_seal_nI es hs hk hp hm h5]
  exact ⟨_, Nat.mod_lt _ (by decide), rfl⟩
theorem LI.ask0 {p m t : Nat} (h : LI x) (h17 : ct x 17 < 12) : LI (ss (cs (cs (cs (cs (cs (cs x 11 (ct x 17) (nI p)) 12 (ct x 17) (nI m)) 13 (ct x 17) (nI t)) 14 (ct x 17) (q_now x)) 15 (ct x 17) 0) 16 (ct x 17) (-1)) 17 (ct x 17 + 1)) := by
  obtain ⟨i2, i4, i10, i17, i22, i29, ilb, ils, ie, is_⟩ := h
  exact ⟨i2, i4, i10, h17, i22, i29, ilb, ils, ie, is_⟩
theorem LI.grant {p m t : Int32} (h : LI x) (h10 : ct x 10 < 20) : LI (q_grant x p m t) := by
  obtain ⟨i2, i4, i10, i17, i22, i29, ilb, ils, ie, is_⟩ := h
  exact ⟨i2, i4, h10, i17, i22, i29, ilb, ils, ie, is_⟩
theorem LI.ent0 {p m : Nat} (h : LI x) (h22 : ct x 22 < 20) (hz : cg x 21 (ct x 22) = 0) : LI (ss (cs (cs (cs x 18 (ct x 22) (nI p)) 19 (ct x 22) (nI m)) 20 (ct x 22) (q_now x)) 22 (ct x 22 + 1)) := by
  obtain ⟨i2, i4, i10, i17, i22, i29, ilb, ils, ie, is_⟩ := h
  refine ⟨i2, i4, i10, i17, h22, i29, ilb, ils, fun k hk => ?_, is_⟩
  have hk : k < ct x 22 + 1 := hk
  by_cases hn : k = ct x 22
  · subst hn
    refine ⟨⟨ct x 5, Nat.lt_succ_self _, by simp [cg_ss, cg_cs]⟩, Or.inl ?_⟩
    simp [cg_ss, cg_cs, hz]
  · have q := ie k (by omega)
    simpa [cg_ss, cg_cs, ct_ss, ct_cs, hn] using q
theorem LI.open0 {p m : Nat} (h : LI x) (h29 : ct x 29 < 12) : LI (ss (cs (cs (cs (cs (cs x 23 (ct x 29) (nI p)) 24 (ct x 29) (nI m)) 25 (ct x 29) 1) 26 (ct x 29) (q_now x)) 27 (ct x 29) (-1)) 29 (ct x 29 + 1)) := by
  obtain ⟨i2, i4, i10, i17, i22, i29, ilb, ils, ie, is_⟩ := h
  refine ⟨i2, i4, i10, i17, i22, h29, ilb, ils, ie, fun k hk => ?_⟩
  have hk : k < ct x 29 + 1 := hk
  by_cases hn : k = ct x 29
  · subst hn
    refine ⟨⟨ct x 5, Nat.lt_succ_self _, by simp [cg_ss, cg_cs]⟩, Or.inr ?_, Or.inl ?_⟩
    · simp [cg_ss, cg_cs]
    · simp [cg_ss, cg_cs]
  · have q := is_ k (by omega)
    simpa [cg_ss, cg_cs, ct_ss, ct_cs, hn] using q
theorem LI.look (h : LI x) (i : Nat) : LI (cs x 21 i 1) := by
  obtain ⟨i2, i4, i10, i17, i22, i29, ilb, ils, ie, is_⟩ := h
  refine ⟨i2, i4, i10, i17, i22, i29, ilb, ils, fun k hk => ?_, is_⟩
  have q := ie k hk
  by_cases hn : k = i
  · exact ⟨q.1, Or.inr (by rw [cg_cs, if_pos rfl, if_pos hn])⟩
  · exact ⟨q.1, by rw [cg_cs, if_pos rfl, if_neg hn]; exact q.2⟩
theorem LI.line (h : LI x) (i : Nat) : LI (cs x 26 i (q_now x)) := by
  obtain ⟨i2, i4, i10, i17, i22, i29, ilb, ils, ie, is_⟩ := h
  refine ⟨i2, i4, i10, i17, i22, i29, ilb, ils, ie, fun k hk => ?_⟩
  have q := is_ k hk
  by_cases hn : k = i
  · exact ⟨by rw [cg_cs, if_pos rfl, if_pos hn]; exact ⟨ct x 5, Nat.lt_succ_self _, rfl⟩, q.2⟩
  · exact ⟨by rw [cg_cs, if_pos rfl, if_neg hn]; exact q.1, q.2⟩
theorem LI.held (h : LI x) (i : Nat) {v : Int32} (hv : v = -1 ∨ q_ref v (ct x 5 + 1)) : LI (cs x 27 i v) := by
  obtain ⟨i2, i4, i10, i17, i22, i29, ilb, ils, ie, is_⟩ := h
  refine ⟨i2, i4, i10, i17, i22, i29, ilb, ils, ie, fun k hk => ?_⟩
  have q := is_ k hk
  by_cases hn : k = i
  · exact ⟨q.1, q.2.1, by rw [cg_cs, if_pos rfl, if_pos hn]; exact hv⟩
  · exact ⟨q.1, q.2.1, by rw [cg_cs, if_pos rfl, if_neg hn]; exact q.2.2⟩
theorem LI.clock (h : LI x) {n : Nat} (hn : ct x 5 ≤ n) : LI (ss x 5 n) := by
  obtain ⟨i2, i4, i10, i17, i22, i29, ilb, ils, ie, is_⟩ := h
  exact ⟨i2, i4, i10, i17, i22, i29, ilb, ils, fun k hk => ⟨(ie k hk).1.mono (Nat.succ_le_succ hn), (ie k hk).2⟩, fun k hk => ⟨(is_ k hk).1.mono (Nat.succ_le_succ hn), (is_ k hk).2.1, (is_ k hk).2.2.imp id (fun q => q.mono (Nat.succ_le_succ hn))⟩⟩
theorem LI.ends (h : LI x) (p m : Int32) : LI (q_ends x p m) := h
theorem LI.denies (h : LI x) (p m : Int32) : LI (q_denies x p m) := h
theorem LI.fst (h : LI x) (i : Nat) (v : Int32) : LI (cs x 16 i v) := h
theorem LI.stl (h : LI x) (i : Nat) (v : Int32) : LI (cs x 15 i v) := h
theorem LI.thr (h : LI x) (i : Nat) (v : Int32) : LI (cs x 28 i v) := h
theorem LI.lab (h : LI x) (i : Nat) (v : Int32) : LI (cs x 1 i v) := h
theorem LI.lapse (h : LI x) : LI (q_lapse x) := h
theorem cs_id (x : s_T) (k i : Nat) : cs x k i (cg x k i) = x := s_ext (fun _ => rfl) (fun j q => by
  rw [cg_cs]
  by_cases h : j = k
  · subst h
    rw [if_pos rfl]
    by_cases h2 : q = i
    · subst h2; rw [if_pos rfl]
    · rw [if_neg h2]
  · rw [if_neg h])
theorem cs_comm (x : s_T) {j k : Nat} (h : j ≠ k) (i a : Nat) (v b : Int32) : cs (cs x j i v) k a b = cs (cs x k a b) j i v := s_ext (fun _ => rfl) (fun u q => by
  rw [cg_cs, cg_cs, cg_cs, cg_cs]
  by_cases h1 : u = k
  · have h2 : ¬ u = j := fun z => h (z.symm.trans h1)
    simp only [if_pos h1, if_neg h2]
  · simp only [if_neg h1])
theorem q_write_c2 (x : s_T) {j : Nat} (h30 : j ≠ 30) (h31 : j ≠ 31) (i : Nat) (v kd p m : Int32) : q_write (cs x j i v) kd p m = cs (q_write x kd p m) j i v := by
  unfold q_write
  rw [q_seal_cs _ _ _ _ _ _ _ h31, ct_cs, cs_comm _ h30, cs_comm _ h31]
  rfl
theorem q_write_s10 (x : s_T) (n : Nat) (kd p m : Int32) : q_write (ss x 10 n) kd p m = ss (q_write x kd p m) 10 n := s_ext (fun k => by
  unfold q_write
  simp only [ct_ss, ct_cs]
  by_cases h : k = 32
  · subst h; rfl
  · simp [h]) (fun _ _ => rfl)
theorem q_write_grant (x : s_T) (kd p m a b t : Int32) : q_write (q_grant x a b t) kd p m = q_grant (q_write x kd p m) a b t := by
  unfold q_grant
  rw [q_write_s10, q_write_c2 _ (by decide) (by decide), q_write_c2 _ (by decide) (by decide), q_write_c2 _ (by decide) (by decide), q_write_c2 _ (by decide) (by decide)]
  rfl
theorem l_p1 {v : Int32} {p : Nat} : (v + 1 = nI (p + 1)) ↔ v = nI p := by
  rw [← nI_1]
  exact ⟨fun h => by have := congrArg (· - 1) h; simpa using this, fun h => by rw [h]⟩
theorem l_gt0 {v : Int32} {n : Nat} (hn : n < 2 ^ 30) (h : v = -1 ∨ q_ref v n) : (v + 1 ≤ 0) ↔ v = -1 := by
  rcases h with rfl | ⟨u, hu, rfl⟩
  · decide
  · rw [nI_1]
    refine ⟨fun h => absurd h (nI_nle (by omega) (by omega)), fun h => ?_⟩
    have h2 : nI u + 1 = 0 := by rw [h]; decide
    rw [nI_1] at h2
    exact absurd h2 (nI_ne0 (by omega) (by omega))
theorem l_eq0 {v : Int32} : (v + 1 = 0) ↔ v = -1 :=
  ⟨fun h => by have := congrArg (· - 1) h; simpa using this, fun h => by rw [h]; decide⟩
theorem l_opn {n : Nat} {v : Int32} (h : v = 0 ∨ v = 1) : nI n + v = nI (n + if v = 0 then 0 else 1) := by
  rcases h with rfl | rfl
  · rw [if_pos rfl]; show nI n + nI 0 = _; rw [nI_add]
  · rw [if_neg (by decide)]; exact nI_1 n
/-! codes -/
theorem l_both (hI : LI x) {a b : Nat} (ha : a < 5) (hb : b < 3) : q_both x (nI a) (nI b) = true := by
  unfold q_both
  rw [q_ix_nI (by omega), q_ix_nI (by omega), hI.1, hI.2.1, decide_eq_true ha, decide_eq_true hb]
  rfl
theorem l_ix {n j : Nat} (h : j < n) (hn : n < 2 ^ 31) : q_ix (nI j) n = true := by
  rw [q_ix_nI (by omega), decide_eq_true h]
theorem l_inT {t hi : Nat} {lo : Nat} (h1 : lo ≤ t) (h2 : t ≤ hi) (hh : hi < 2 ^ 31) : q_in (nI t) (nI lo) (nI hi) = true := by
  unfold q_in
  rw [decide_eq_true (nI_le h1 (by omega)), decide_eq_true (nI_le h2 hh)]
  rfl
theorem l_can (hI : LI x) {a b : Nat} (ha : a < 5) (hb : b < 3) : q_can x (nI a) (nI b) = (q_has x (nI a) (nI b) && decide (q_over x (nI a) (ct x 22) = 0)) := by
  unfold q_can
  rw [l_both hI ha hb, Bool.true_and]
theorem l_askc (hI : LI x) {a b t : Nat} (ha : a < 5) (hb : b < 3) (h1 : 1 ≤ t) (h2 : t ≤ 600) : f_ask_c x (nI a) (nI b) (nI t) = if (q_has x (nI a) (nI b) && decide (q_over x (nI a) (ct x 22) = 0)) = true then 0 else 3 := by
  unfold f_ask_c
  rw [l_both hI ha hb, l_can hI ha hb, show q_in (nI t) 1 600 = true from l_inT (lo := 1) (hi := 600) h1 h2 (by decide)]
  cases (q_has x (nI a) (nI b) && decide (q_over x (nI a) (ct x 22) = 0)) <;> rfl
theorem l_entc (hI : LI x) {a b : Nat} (ha : a < 5) (hb : b < 3) : f_enter_c x (nI a) (nI b) = if (q_has x (nI a) (nI b) && decide (q_over x (nI a) (ct x 22) = 0)) = true then 0 else 2 := by
  unfold f_enter_c
  rw [l_both hI ha hb, l_can hI ha hb]
  cases (q_has x (nI a) (nI b) && decide (q_over x (nI a) (ct x 22) = 0)) <;> rfl
theorem l_lookc (hI : LI x) {e p u : Nat} (he : e < ct x 22) (hp : p < 5) (hu : u < 5) (eu : cg x 18 e = nI u) : f_lookAt_c x (nI e) (nI p) = if (decide (cg x 21 e = 0) && decide (cg x 0 p ≠ cg x 0 u)) = true then 0 else 2 := by
  have h22 := hI.2.2.2.2.1
  unfold f_lookAt_c
  rw [l_ix he (by omega), show q_ix (nI p) (ct x 2) = true by rw [hI.1]; exact l_ix hp (by decide), pn_nI (show e < 2 ^ 31 by omega), pn_nI (show p < 2 ^ 31 by omega), eu, pn_nI (show u < 2 ^ 31 by omega)]
  cases (decide (cg x 21 e = 0) && decide (cg x 0 p ≠ cg x 0 u)) <;> rfl
theorem l_jud (hI : LI x) {a p u v : Nat} (ha : a < ct x 17) (hp : p < 5) (hu : u < 5) (eu : cg x 11 a = nI u) (ev : cg x 12 a = nI v) : q_jud x (nI a) (nI p) = (decide (cg x 15 a = 0) && (decide (cg x 0 p ≠ cg x 0 u) && q_has x (nI p) (nI v))) := by
  have h17 := hI.2.2.2.1
  unfold q_jud
  rw [l_ix ha (by omega), show q_ix (nI p) (ct x 2) = true by rw [hI.1]; exact l_ix hp (by decide), pn_nI (show a < 2 ^ 31 by omega), pn_nI (show p < 2 ^ 31 by omega), eu, ev, pn_nI (show u < 2 ^ 31 by omega), Bool.true_and, Bool.true_and]
theorem l_denc (hI : LI x) {a p : Nat} {B : Bool} (ha : a < ct x 17) (hp : p < 5) (hB : q_jud x (nI a) (nI p) = B) : f_deny_c x (nI a) (nI p) = if B = true then 0 else 2 := by
  have h17 := hI.2.2.2.1
  unfold f_deny_c
  rw [l_ix ha (by omega), show q_ix (nI p) (ct x 2) = true by rw [hI.1]; exact l_ix hp (by decide), hB]
  cases B <;> rfl
theorem l_appc (hI : LI x) {a p : Nat} {B : Bool} (ha : a < ct x 17) (hp : p < 5) (hB : q_jud x (nI a) (nI p) = B) : f_approve_c x (nI a) (nI p) = if (B && decide (cg x 16 a ≠ nI p)) = true then 0 else 2 := by
  have h17 := hI.2.2.2.1
  unfold f_approve_c
  rw [l_ix ha (by omega), show q_ix (nI p) (ct x 2) = true by rw [hI.1]; exact l_ix hp (by decide), hB, pn_nI (show a < 2 ^ 31 by omega)]
  cases (B && decide (cg x 16 a ≠ nI p)) <;> rfl
theorem l_opnc (hI : LI x) {a b : Nat} (ha : a < 5) (hb : b < 3) : f_open_c x (nI a) (nI b) = if q_hold x (nI a) (nI b) (nI (ct x 5)) (ct x 10) = true then 0 else 2 := by
  unfold f_open_c
  rw [l_both hI ha hb]
  show q_code true (true && q_hold x (nI a) (nI b) (nI (ct x 5)) (ct x 10)) true = _
  cases q_hold x (nI a) (nI b) (nI (ct x 5)) (ct x 10) <;> rfl
theorem l_typc (hI : LI x) {a k : Nat} (ha : a < ct x 29) (hk : k ≤ 2) : f_type_c x (nI a) (nI k) = if (decide (cg x 25 a ≠ 0) && decide (cg x 27 a = -1)) = true then 0 else 3 := by
  have h29 := hI.2.2.2.2.2.1
  unfold f_type_c
  rw [l_ix ha (by omega), show q_in (nI k) 0 2 = true from l_inT (lo := 0) (hi := 2) (Nat.zero_le _) hk (by decide), pn_nI (show a < 2 ^ 31 by omega), Bool.true_and]
  cases (decide (cg x 25 a ≠ 0) && decide (cg x 27 a = -1)) <;> rfl
theorem l_letc (hI : LI x) {a p u v : Nat} (ha : a < ct x 29) (hp : p < 5) (hu : u < 5) (eu : cg x 23 a = nI u) (ev : cg x 24 a = nI v) : f_letThrough_c x (nI a) (nI p) = if (decide (cg x 25 a ≠ 0) && (decide (cg x 27 a ≠ -1) && (decide (cg x 0 p ≠ cg x 0 u) && q_has x (nI p) (nI v)))) = true then 0 else 2 := by
  have h29 := hI.2.2.2.2.2.1
  unfold f_letThrough_c
  rw [l_ix ha (by omega), show q_ix (nI p) (ct x 2) = true by rw [hI.1]; exact l_ix hp (by decide), pn_nI (show a < 2 ^ 31 by omega), pn_nI (show p < 2 ^ 31 by omega), eu, ev, pn_nI (show u < 2 ^ 31 by omega), Bool.true_and, Bool.true_and]
  cases (decide (cg x 25 a ≠ 0) && (decide (cg x 27 a ≠ -1) && (decide (cg x 0 p ≠ cg x 0 u) && q_has x (nI p) (nI v)))) <;> rfl
theorem l_cloc (hI : LI x) {a : Nat} (ha : a < ct x 29) : f_close_c x (nI a) = if decide (cg x 25 a ≠ 0) = true then 0 else 2 := by
  have h29 := hI.2.2.2.2.2.1
  unfold f_close_c
  rw [l_ix ha (by omega), pn_nI (show a < 2 ^ 31 by omega), Bool.true_and]
  cases decide (cg x 25 a ≠ 0) <;> rfl
theorem l_asc (hI : LI x) {a : Nat} (ha : a < ct x 17) : f_askState_c x (nI a) = 0 := by
  have h := hI.2.2.2.1
  unfold f_askState_c
  rw [l_ix ha (by omega)]
  rfl
theorem l_isc (hI : LI x) {a : Nat} (ha : a < ct x 29) : f_isOpen_c x (nI a) = 0 := by
  have h := hI.2.2.2.2.2.1
  unfold f_isOpen_c
  rw [l_ix ha (by omega)]
  rfl
theorem l_ovc (hI : LI x) {a : Nat} (ha : a < 5) : f_overdue_c x (nI a) = 0 := by
  unfold f_overdue_c
  rw [show q_ix (nI a) (ct x 2) = true by rw [hI.1]; exact l_ix ha (by decide)]
  rfl
theorem l_cec (hI : LI x) {a b t : Nat} (ha : a < 5) (hb : b < 3) (ht : t ≤ 100000) : f_couldEnter_c x (nI a) (nI b) (nI t) = 0 := by
  unfold f_couldEnter_c
  rw [l_both hI ha hb, show q_in (nI t) 0 100000 = true from l_inT (lo := 0) (hi := 100000) (Nat.zero_le _) ht (by decide)]
  rfl
theorem l_no3 {c : Int32} {E e1 e2 e3 : String} (hc : c = 0) (h : (E = e1 ∧ c = 1) ∨ (E = e2 ∧ c = 2) ∨ (E = e3 ∧ c = 3)) : False := by
  subst hc
  rcases h with ⟨-, h⟩ | ⟨-, h⟩ | ⟨-, h⟩ <;> exact absurd h (by decide)
theorem l_c3 {c : Int32} {B : Bool} (h : c = if B = true then 0 else 3) : c ≠ 1 ∧ c ≠ 2 ∧ (B = true → c = 0) ∧ (B = false → c ≠ 0) := by
  subst h
  cases B <;> decide
theorem l_c2 {c : Int32} {B : Bool} (h : c = if B = true then 0 else 2) : c ≠ 1 ∧ (B = true → c = 0) ∧ (B = false → c ≠ 0) := by
  subst h
  cases B <;> decide
def l_tm (z T : Nat) : Nat := if z % 3 = 0 then T else if z % 3 = 1 then T + z / 3 % 50 else z / 3 % (T + 1)
theorem l_tm_le (z : Nat) {T : Nat} (h : T ≤ 99000) : l_tm z T ≤ 100000 := by
  unfold l_tm
  split
  · omega
  · split
    · omega
    · have := Nat.mod_lt (z / 3) (show 0 < T + 1 by omega)
      omega
def l_md (z : Nat) : Nat := if z % 2 = 0 then 600 else 30
theorem l_md_le (z : Nat) : 30 ≤ l_md z ∧ l_md z ≤ 600 := by
  unfold l_md
  split <;> omega
def l_ak (z n : Nat) : Nat := if z / 5 % 3 = 0 then n - 1 else z / 15 % n
theorem l_ak_lt (z : Nat) {n : Nat} (h : 0 < n) : l_ak z n < n := by
  unfold l_ak
  split
  · omega
  · exact Nat.mod_lt _ h
theorem LH.shut (h : LH y) (k : Nat) : LH (q_shut y k) := fun j hj h0 => by
  have e27 : cg (q_shut y k) 27 j = if j = k then -1 else cg y 27 j := by
    unfold q_shut q_write
    rw [cg_ss, cg_cs, if_neg (by decide), cg_cs, if_neg (by decide), cg_cs, if_pos rfl]
    rfl
  rw [q_shut_25] at h0
  rw [e27]
  by_cases hk : j = k
  · rw [if_pos hk]
  · rw [if_neg hk] at h0 ⊢
    exact h j hj h0
theorem LH.close (h : LH y) (a : Int32) : ∀ k, LH (q_close y a k).1
  | 0 => h
  | k + 1 => by
    by_cases hq : q_end1 (q_close y a k).1 a k = true
    · rw [q_close_t hq]
      exact (LH.close h a k).shut k
    · rw [q_close_f (Bool.eq_false_iff.mpr hq)]
      exact LH.close h a k
theorem LH.open0 {p m : Nat} (h : LH x) : LH (ss (cs (cs (cs (cs (cs x 23 (ct x 29) (nI p)) 24 (ct x 29) (nI m)) 25 (ct x 29) 1) 26 (ct x 29) (q_now x)) 27 (ct x 29) (-1)) 29 (ct x 29 + 1)) := fun k hk h0 => by
  have hk : k < ct x 29 + 1 := hk
  by_cases hn : k = ct x 29
  · subst hn
    simp [cg_ss, cg_cs]
  · have h0 : cg x 25 k = 0 := by simpa [cg_ss, cg_cs, hn] using h0
    simpa [cg_ss, cg_cs, hn] using h k (by omega) h0
theorem LH.held (h : LH x) {i : Nat} (v : Int32) (ho : v = -1 ∨ cg x 25 i ≠ 0) : LH (cs x 27 i v) := fun k hk h0 => by
  have h0 : cg x 25 k = 0 := h0
  rw [cg_cs, if_pos rfl]
  by_cases hn : k = i
  · subst hn
    rw [if_pos rfl]
    rcases ho with ho | ho
    · exact ho
    · exact absurd h0 ho
  · rw [if_neg hn]
    exact h k hk h0
theorem cs_same {k i : Nat} {v : Int32} (h : cg x k i = v) : cs x k i v = x := by
  rw [← h]
  exact cs_id x k i
theorem l_min (a b : Int32) : a - (b + 1) + 1 = a - b := by
  rw [Int32.sub_eq_add_neg, Int32.sub_eq_add_neg, Int32.neg_add, Int32.add_assoc, Int32.sub_eq_add_neg, Int32.add_assoc, Int32.add_left_neg, Int32.add_zero]
def l_sk (z n : Nat) : Nat := if 0 < z / 5 % 3 then n - 1 else z / 15 % n
theorem l_sk_lt (z : Nat) {n : Nat} (h : 0 < n) : l_sk z n < n := by
  unfold l_sk
  split
  · omega
  · exact Nat.mod_lt _ h
def l_kd (z : Nat) : Nat := if z / 45 % 5 < 3 then 0 else if z / 45 % 5 = 3 then 1 else z / 225 % 3
theorem l_kd_le (z : Nat) : l_kd z ≤ 2 := by
  unfold l_kd
  split
  · omega
  · split <;> omega
/-- how many were closed -/
def q_cnt (y : s_T) (a : Int32) : Nat → Nat
  | 0 => 0
  | k + 1 => q_cnt y a k + if q_end1 (q_close y a k).1 a k = true then 1 else 0
theorem q_cnt_eq (y : s_T) (a : Int32) : ∀ k, (q_close y a k).2 = nI (q_cnt y a k)
  | 0 => rfl
  | k + 1 => by
    by_cases hq : q_end1 (q_close y a k).1 a k = true
    · rw [q_close_t hq, q_cnt, if_pos hq, ← nI_1, ← q_cnt_eq y a k]
    · rw [q_close_f (Bool.eq_false_iff.mpr hq), q_cnt, if_neg hq, Nat.add_zero]
      exact q_cnt_eq y a k
theorem q_cnt_le (y : s_T) (a : Int32) : ∀ k, q_cnt y a k ≤ k
  | 0 => Nat.le_refl _
  | k + 1 => by
    have := q_cnt_le y a k
    rw [q_cnt]
    split <;> omega
theorem q_cnt_mono (y : s_T) (a : Int32) (k : Nat) : ∀ d, q_cnt y a k ≤ q_cnt y a (k + d)
  | 0 => Nat.le_refl _
  | d + 1 => Nat.le_trans (q_cnt_mono y a k d) (by show q_cnt y a (k + d) ≤ q_cnt y a (k + d) + _; omega)
/-- a session is open until its turn comes -/
theorem q_close_25 (y : s_T) (a : Int32) : ∀ k j, k ≤ j → cg (q_close y a k).1 25 j = cg y 25 j
  | 0, _, _ => rfl
  | k + 1, j, h => by
    by_cases hq : q_end1 (q_close y a k).1 a k = true
    · rw [q_close_t hq]
      show cg (q_shut (q_close y a k).1 k) 25 j = _
      rw [q_shut_25, if_neg (by omega)]
      exact q_close_25 y a k j (by omega)
    · rw [q_close_f (Bool.eq_false_iff.mpr hq)]
      exact q_close_25 y a k j (by omega)
theorem q_cnt_pos {k : Nat} (hk : k < ct y 29) (ho : cg y 25 k ≠ 0) : ∃ c, 0 < c ∧ c ≤ ct y 29 ∧ (q_closes y (nI k)).2 = nI c := by
  refine ⟨q_cnt y (nI k) (ct y 29), ?_, q_cnt_le _ _ _, q_cnt_eq _ _ _⟩
  have he : q_end1 (q_close y (nI k) k).1 (nI k) k = true := by
    unfold q_end1
    rw [q_close_25 y (nI k) k k (Nat.le_refl _), decide_eq_true ho, decide_eq_true (rfl : nI k = nI k)]
    rfl
  have h1 : 0 < q_cnt y (nI k) (k + 1) := by
    rw [q_cnt, if_pos he]
    omega
  have h2 := q_cnt_mono y (nI k) (k + 1) (ct y 29 - (k + 1))
  rw [show k + 1 + (ct y 29 - (k + 1)) = ct y 29 by omega] at h2
  omega
end L75
