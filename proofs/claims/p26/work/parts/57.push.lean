/-! a list grows: a new object, its place in the list -/
def c_b (b : c_B) (i n q ea : Nat) : c_B := fun s k => if s = 5 ∧ k = i then ea else if s = 6 + i ∧ k = n then q else b s k
/-- the lists' part of the conditions -/
def c_ls (b : c_B) (x : s_T) (w : c_W) : Prop := ∀ i, i < 6 → ct x (cI i) ≤ w.2.1 i ∧ w.2.1 i ≤ 800 ∧ (w.2.1 i ≠ 0 → 10 ≤ w.2.1 i) ∧ ∀ k, k < ct x (cI i) → w.2.2 i k = some (b (6 + i) k)
section CP
variable {G : mw_G} {b : c_B} {x x1 : s_T} {w : c_W} {M M1 : mw_M} {T : Nat}
set_option maxHeartbeats 200000 in
theorem CA.push (hA : CA G b x w M) {q i e : Nat} (hq : M q = none) (hi : i < 6) {e0 : va_E} {mc : Int32} {w0 : Nat → Nat → Int32} (hls : c_ls b x w)
    (hp : j_added G (va_up M q (some e0)) (b 4 i) e q (ct x (cI i)) (w.2.1 i) (w.2.2 i) mc M1) (he : w.2.1 i ≠ 0 → e = b 5 i) (hcnt : ct x1 (cI i) = ct x (cI i) + 1) (hoth : ∀ j, j < 6 → j ≠ i → ct x1 (cI j) = ct x (cI j)) (hmc : w0 3 i = mc) (hlast : ¬ cl x w (6 + i) (ct x (cI i)))
    (hlive : ∀ (cp : Nat) (g : Nat → Option Nat) (s k : Nat), cl x1 (w0, va_up w.2.1 i cp, va_up w.2.2 i g) s k → cl x w s k ∨ (s = 5 ∧ k = i) ∨ (s = 6 + i ∧ k = ct x (cI i)))
    (hnew : ∀ (ea cp : Nat) (g : Nat → Option Nat), ce G (c_b b i (ct x (cI i)) q ea) x1 (w0, va_up w.2.1 i cp, va_up w.2.2 i g) (6 + i) (ct x (cI i)) = e0)
    (hold : ∀ (ea cp : Nat) (g : Nat → Option Nat) (s k : Nat), cl x w s k → ¬ (s = 4 ∧ k = i) → ¬ (s = 5 ∧ k = i) → ce G (c_b b i (ct x (cI i)) q ea) x1 (w0, va_up w.2.1 i cp, va_up w.2.2 i g) s k = ce G b x w s k) :
    ∃ (ea : Nat) (w1 : c_W), w1.1 = w0 ∧ CA G (c_b b i (ct x (cI i)) q ea) x1 w1 M1 ∧ c_ls (c_b b i (ct x (cI i)) q ea) x1 w1 := by
  obtain ⟨ea, cp, g, a1, a2, a3, a4, a5, a6, a7, a8, a9⟩ := hp
  generalize hn : ct x (cI i) = n at *
  have hqo : ∀ s k, cl x w s k → b s k ≠ q := fun s k h => mw_old (hA.1 s k h) hq
  have h4 : cl x w 4 i := hi
  have heq : ea ≠ q := by
    rcases a8 with ⟨z, hz⟩ | z
    · rw [z, he hz]; exact hqo 5 i ⟨hi, hz⟩
    · intro y; rw [y, va_up_self] at z; cases z
  have hea : ∀ s k, cl x w s k → ¬ (s = 5 ∧ k = i) → ea ≠ b s k := fun s k h hne => by
    rcases a8 with ⟨z, hz⟩ | z
    · rw [z, he hz]
      intro y
      obtain ⟨y1, y2⟩ := hA.2 5 i s k ⟨hi, hz⟩ h y
      exact hne ⟨y1.symm, y2.symm⟩
    · intro y
      rw [y, va_up_ne _ _ (hqo s k h), hA.1 s k h] at z
      cases z
  have b5 : c_b b i n q ea 5 i = ea := by unfold c_b; rw [if_pos ⟨rfl, rfl⟩]
  have bq : c_b b i n q ea (6 + i) n = q := by unfold c_b; rw [if_neg (fun z => by omega), if_pos ⟨rfl, rfl⟩]
  have bo : ∀ s k, cl x w s k → ¬ (s = 5 ∧ k = i) → c_b b i n q ea s k = b s k := fun s k h hne => by
    unfold c_b
    rw [if_neg hne, if_neg (fun z => hlast (by rw [← z.1, ← z.2]; exact h))]
  refine ⟨ea, (w0, va_up w.2.1 i cp, va_up w.2.2 i g), rfl, ⟨fun s k hs => ?_, fun s k s' k' hs hs' => ?_⟩, fun j hj => ?_⟩
  · by_cases h5 : s = 5 ∧ k = i
    · obtain ⟨rfl, rfl⟩ := h5
      rw [b5, a2]
      simp [ce, va_up_self]
    · rcases hlive cp g s k hs with h | h | h
      · rw [bo s k h h5]
        by_cases h44 : s = 4 ∧ k = i
        · obtain ⟨rfl, rfl⟩ := h44
          rw [a1]
          have hcp : ¬ cp = 0 := by omega
          simp [ce, va_up_self, hmc, hcnt, b5, hcp]
        · have hne4 : b s k ≠ b 4 i := fun z => h44 (hA.2 s k 4 i h h4 z)
          rw [a9 _ hne4 (Ne.symm (hea s k h h5)), va_up_ne _ _ (hqo s k h), hA.1 s k h, hold ea cp g s k h h44 h5]
      · exact absurd h h5
      · obtain ⟨rfl, rfl⟩ := h
        rw [bq, a9 _ (Ne.symm (hqo 4 i h4)) (Ne.symm heq), va_up_self, hnew]
  · intro hz
    have key : ∀ s k, cl x1 (w0, va_up w.2.1 i cp, va_up w.2.2 i g) s k → (s = 5 ∧ k = i ∧ c_b b i n q ea s k = ea) ∨ (s = 6 + i ∧ k = n ∧ c_b b i n q ea s k = q) ∨ (cl x w s k ∧ ¬ (s = 5 ∧ k = i) ∧ c_b b i n q ea s k = b s k) := fun s k h => by
      by_cases h5 : s = 5 ∧ k = i
      · obtain ⟨rfl, rfl⟩ := h5
        exact Or.inl ⟨rfl, rfl, b5⟩
      · rcases hlive cp g s k h with h | h | h
        · exact Or.inr (Or.inr ⟨h, h5, bo s k h h5⟩)
        · exact absurd h h5
        · obtain ⟨rfl, rfl⟩ := h
          exact Or.inr (Or.inl ⟨rfl, rfl, bq⟩)
    rcases key s k hs with ⟨u1, u2, u3⟩ | ⟨u1, u2, u3⟩ | ⟨u1, u2, u3⟩ <;> rcases key s' k' hs' with ⟨v1, v2, v3⟩ | ⟨v1, v2, v3⟩ | ⟨v1, v2, v3⟩ <;> rw [u3, v3] at hz
    · exact ⟨u1.trans v1.symm, u2.trans v2.symm⟩
    · exact absurd hz heq
    · exact absurd hz (hea s' k' v1 v2)
    · exact absurd hz.symm heq
    · exact ⟨u1.trans v1.symm, u2.trans v2.symm⟩
    · exact absurd hz.symm (hqo s' k' v1)
    · exact absurd hz.symm (hea s k u1 u2)
    · exact absurd hz (hqo s k u1)
    · exact hA.2 s k s' k' u1 v1 hz
  · by_cases hji : j = i
    · subst hji
      rw [hcnt]
      refine ⟨?_, ?_, fun _ => ?_, fun k hk => ?_⟩
      · show n + 1 ≤ va_up w.2.1 j cp j
        rw [va_up_self]; omega
      · show va_up w.2.1 j cp j ≤ 800
        rw [va_up_self]; exact a7
      · show 10 ≤ va_up w.2.1 j cp j
        rw [va_up_self]; exact a6
      · show va_up w.2.2 j g j k = _
        rw [va_up_self]
        by_cases hkn : k = n
        · rw [hkn, a3, bq]
        · rw [a4 k (by omega), (hls j hj).2.2.2 k (by omega)]
          unfold c_b
          rw [if_neg (fun z => by omega), if_neg (fun z => hkn z.2)]
    · rw [hoth j hj hji]
      obtain ⟨c1, c2, c3, c4⟩ := hls j hj
      refine ⟨?_, ?_, fun h => ?_, fun k hk => ?_⟩
      · show _ ≤ va_up w.2.1 i cp j
        rw [va_up_ne _ _ hji]; exact c1
      · show va_up w.2.1 i cp j ≤ 800
        rw [va_up_ne _ _ hji]; exact c2
      · show 10 ≤ va_up w.2.1 i cp j
        have h : va_up w.2.1 i cp j ≠ 0 := h
        rw [va_up_ne _ _ hji] at h ⊢
        exact c3 h
      · show va_up w.2.2 i g j k = _
        rw [va_up_ne _ _ hji, c4 k hk]
        unfold c_b
        rw [if_neg (fun z => by omega), if_neg (fun z => hji (by omega))]
theorem c_fa {b : c_B} {v : Int32} {n : Nat} (h : v = -1 ∨ q_ref v n) (hn : n < 2 ^ 31) (z : Nat) : (if v = -1 then none else some (if pn v = n then z else b 6 (pn v))) = (if v = -1 then none else some (b 6 (pn v))) := by
  rcases h with h | h
  · rw [if_pos h, if_pos h]
  · rw [if_neg (Nat.ne_of_lt (c_pn h hn).1)]
/-- what stays of the addresses -/
theorem c_b_6 {b : c_B} {i n q ea : Nat} (s k : Nat) (h5 : s ≠ 5) (h6 : s ≠ 6 + i ∨ k ≠ n) : c_b b i n q ea s k = b s k := by
  unfold c_b
  rw [if_neg (fun z => h5 z.1), if_neg (fun z => h6.elim (fun y => y z.1) (fun y => y z.2))]
set_option maxHeartbeats 100000 in
theorem CA.push_P (hA : CA G b x w M) {N : Nat} (hi : q_inv N x) (hls : c_ls b x w) {q e : Nat} (hq : M q = none) {mc : Int32} {t : Int32} (he : w.2.1 0 ≠ 0 → e = b 5 0)
    (hp : j_added G (va_up M q (some (.inr (4, [.int (nI (ct x 2)), .int t, .int 0])))) (b 4 0) e q (ct x 2) (w.2.1 0) (w.2.2 0) mc M1) :
    ∃ (ea : Nat) (w1 : c_W), w1.1 = (cw (cw w 3 0 mc) 0 (ct x 2) 0).1 ∧ CA G (c_b b 0 (ct x 2) q ea) (ss (cs x 0 (ct x 2) t) 2 (ct x 2 + 1)) w1 M1 ∧ c_ls (c_b b 0 (ct x 2) q ea) (ss (cs x 0 (ct x 2) t) 2 (ct x 2 + 1)) w1 := by
  obtain ⟨⟨i2, i4, i5, i10, i17, i22, i29, i32⟩, hr3, hr6, hr11, hr18, hr23, hz21, hz28, hlb⟩ := id hi
  refine CA.push (i := 0) (x1 := ss (cs x 0 (ct x 2) t) 2 (ct x 2 + 1)) (w0 := (cw (cw w 3 0 mc) 0 (ct x 2) 0).1) hA hq (by decide) hls hp he rfl (fun j hj hne => ?_) ?_ (fun z => Nat.lt_irrefl _ z) (fun cp g s k hs => ?_) (fun ea cp g => ?_) (fun ea cp g => ?_)
  · rcases (show j = 0 ∨ j = 1 ∨ j = 2 ∨ j = 3 ∨ j = 4 ∨ j = 5 by omega) with rfl | rfl | rfl | rfl | rfl | rfl <;> first | exact absurd rfl hne | (simp [ce, c_b, cg_cs, cg_ss, ct_ss, ct_cs, cw_get, cI]; done)
  · simp [cw_get]
  · revert k
    revert s
    refine cl_cases (P := fun s k => cl x w s k ∨ (s = 5 ∧ k = 0) ∨ (s = 6 + 0 ∧ k = ct x 2)) (Or.inl rfl) (Or.inl rfl) (Or.inl rfl) (Or.inl rfl) (fun k hk => Or.inl hk) (fun k hk hz => ?_) (fun k hk => ?_) (fun k hk => Or.inl hk) (fun k hk => Or.inl hk) (fun k hk => Or.inl hk) (fun k hk => Or.inl hk) (fun k hk => Or.inl hk)
    · by_cases hki : k = 0
      · exact Or.inr (Or.inl ⟨rfl, hki⟩)
      · exact Or.inl ⟨hk, by have hz : va_up w.2.1 0 cp k ≠ 0 := hz; rw [va_up_ne _ _ hki] at hz; exact hz⟩
    · have hk : k < ct x 2 + 1 := hk
      rcases Nat.lt_or_ge k (ct x 2) with h | h
      · exact Or.inl h
      · exact Or.inr (Or.inr ⟨rfl, by omega⟩)
  · simp [ce, c_b, cg_cs, cg_ss, ct_ss, ct_cs, cw_get, cI]
  · exact cl_cases (P := fun s k => ¬ (s = 4 ∧ k = 0) → ¬ (s = 5 ∧ k = 0) → ce G (c_b b 0 (ct x (cI 0)) q ea) (ss (cs x 0 (ct x 2) t) 2 (ct x 2 + 1)) ((cw (cw w 3 0 mc) 0 (ct x 2) 0).1, va_up w.2.1 0 cp, va_up w.2.2 0 g) s k = ce G b x w s k) (fun _ _ => by simp [ce, c_b, cg_cs, cg_ss, ct_ss, ct_cs, cw_get] <;> (funext z; simp [ce, c_b, cg_cs, cg_ss, ct_ss, ct_cs, cw_get]))
      (fun _ _ => by simp [ce, c_b, cg_cs, cg_ss, ct_ss, ct_cs, cw_get] <;> (funext z; simp [ce, c_b, cg_cs, cg_ss, ct_ss, ct_cs, cw_get]))
      (fun _ _ => by simp [ce, c_b, cg_cs, cg_ss, ct_ss, ct_cs, cw_get] <;> (funext z; simp [ce, c_b, cg_cs, cg_ss, ct_ss, ct_cs, cw_get]))
      (fun _ _ => by simp [ce, c_b, cg_cs, cg_ss, ct_ss, ct_cs, cw_get] <;> (funext z; simp [ce, c_b, cg_cs, cg_ss, ct_ss, ct_cs, cw_get]))
      (fun k hk h4 _ => by rcases (show k = 0 ∨ k = 1 ∨ k = 2 ∨ k = 3 ∨ k = 4 ∨ k = 5 by omega) with rfl | rfl | rfl | rfl | rfl | rfl <;> first | exact absurd ⟨rfl, rfl⟩ h4 | (simp [ce, c_b, cg_cs, cg_ss, ct_ss, ct_cs, cw_get, cI, va_up]; done))
      (fun k hk hz _ h5 => by have hk5 : k ≠ 0 := fun z => h5 ⟨rfl, z⟩; simp [ce, c_b, cg_cs, cg_ss, ct_ss, ct_cs, cw_get, va_up, hk5])
      (fun k hk _ _ => by have hkn : k ≠ ct x 2 := Nat.ne_of_lt hk; simp [ce, c_b, cg_cs, cg_ss, ct_ss, ct_cs, cw_get, cI, hkn])
      (fun k hk _ _ => by simp [ce, c_b, cg_cs, cg_ss, ct_ss, ct_cs, cw_get, cI])
      (fun k hk _ _ => by have hx := Nat.ne_of_lt (c_pn ((hr11 k hk).1) (show ct x 2 < 2 ^ 31 by omega)).1; have hy := c_fa (b := b) (hr11 k hk).2.2.2 (show ct x 2 < 2 ^ 31 by omega) q; simp [ce, c_b, cg_cs, cg_ss, ct_ss, ct_cs, cw_get, cI, hx, hy])
      (fun k hk _ _ => by have hx := Nat.ne_of_lt (c_pn ((hr18 k hk).1) (show ct x 2 < 2 ^ 31 by omega)).1; simp [ce, c_b, cg_cs, cg_ss, ct_ss, ct_cs, cw_get, cI, hx])
      (fun k hk _ _ => by have hx := Nat.ne_of_lt (c_pn ((hr6 k hk).1) (show ct x 2 < 2 ^ 31 by omega)).1; simp [ce, c_b, cg_cs, cg_ss, ct_ss, ct_cs, cw_get, cI, hx])
      (fun k hk _ _ => by have hx := Nat.ne_of_lt (c_pn ((hr23 k hk).1) (show ct x 2 < 2 ^ 31 by omega)).1; simp [ce, c_b, cg_cs, cg_ss, ct_ss, ct_cs, cw_get, cI, hx])
set_option maxHeartbeats 100000 in
theorem CA.push_M (hA : CA G b x w M) {N : Nat} (hi : q_inv N x) (hls : c_ls b x w) {q e : Nat} (hq : M q = none) {mc : Int32} {t : Int32} (he : w.2.1 1 ≠ 0 → e = b 5 1)
    (hp : j_added G (va_up M q (some (.inr (3, [.int (nI (ct x 4)), .int t])))) (b 4 1) e q (ct x 4) (w.2.1 1) (w.2.2 1) mc M1) :
    ∃ (ea : Nat) (w1 : c_W), w1.1 = (cw w 3 1 mc).1 ∧ CA G (c_b b 1 (ct x 4) q ea) (ss (cs x 3 (ct x 4) t) 4 (ct x 4 + 1)) w1 M1 ∧ c_ls (c_b b 1 (ct x 4) q ea) (ss (cs x 3 (ct x 4) t) 4 (ct x 4 + 1)) w1 := by
  obtain ⟨⟨i2, i4, i5, i10, i17, i22, i29, i32⟩, hr3, hr6, hr11, hr18, hr23, hz21, hz28, hlb⟩ := id hi
  refine CA.push (i := 1) (x1 := ss (cs x 3 (ct x 4) t) 4 (ct x 4 + 1)) (w0 := (cw w 3 1 mc).1) hA hq (by decide) hls hp he rfl (fun j hj hne => ?_) ?_ (fun z => Nat.lt_irrefl _ z) (fun cp g s k hs => ?_) (fun ea cp g => ?_) (fun ea cp g => ?_)
  · rcases (show j = 0 ∨ j = 1 ∨ j = 2 ∨ j = 3 ∨ j = 4 ∨ j = 5 by omega) with rfl | rfl | rfl | rfl | rfl | rfl <;> first | exact absurd rfl hne | (simp [ce, c_b, cg_cs, cg_ss, ct_ss, ct_cs, cw_get, cI]; done)
  · simp [cw_get]
  · revert k
    revert s
    refine cl_cases (P := fun s k => cl x w s k ∨ (s = 5 ∧ k = 1) ∨ (s = 6 + 1 ∧ k = ct x 4)) (Or.inl rfl) (Or.inl rfl) (Or.inl rfl) (Or.inl rfl) (fun k hk => Or.inl hk) (fun k hk hz => ?_) (fun k hk => Or.inl hk) (fun k hk => ?_) (fun k hk => Or.inl hk) (fun k hk => Or.inl hk) (fun k hk => Or.inl hk) (fun k hk => Or.inl hk)
    · by_cases hki : k = 1
      · exact Or.inr (Or.inl ⟨rfl, hki⟩)
      · exact Or.inl ⟨hk, by have hz : va_up w.2.1 1 cp k ≠ 0 := hz; rw [va_up_ne _ _ hki] at hz; exact hz⟩
    · have hk : k < ct x 4 + 1 := hk
      rcases Nat.lt_or_ge k (ct x 4) with h | h
      · exact Or.inl h
      · exact Or.inr (Or.inr ⟨rfl, by omega⟩)
  · simp [ce, c_b, cg_cs, cg_ss, ct_ss, ct_cs, cw_get, cI]
  · exact cl_cases (P := fun s k => ¬ (s = 4 ∧ k = 1) → ¬ (s = 5 ∧ k = 1) → ce G (c_b b 1 (ct x (cI 1)) q ea) (ss (cs x 3 (ct x 4) t) 4 (ct x 4 + 1)) ((cw w 3 1 mc).1, va_up w.2.1 1 cp, va_up w.2.2 1 g) s k = ce G b x w s k) (fun _ _ => by simp [ce, c_b, cg_cs, cg_ss, ct_ss, ct_cs, cw_get] <;> (funext z; simp [ce, c_b, cg_cs, cg_ss, ct_ss, ct_cs, cw_get]))
      (fun _ _ => by simp [ce, c_b, cg_cs, cg_ss, ct_ss, ct_cs, cw_get] <;> (funext z; simp [ce, c_b, cg_cs, cg_ss, ct_ss, ct_cs, cw_get]))
      (fun _ _ => by simp [ce, c_b, cg_cs, cg_ss, ct_ss, ct_cs, cw_get] <;> (funext z; simp [ce, c_b, cg_cs, cg_ss, ct_ss, ct_cs, cw_get]))
      (fun _ _ => by simp [ce, c_b, cg_cs, cg_ss, ct_ss, ct_cs, cw_get] <;> (funext z; simp [ce, c_b, cg_cs, cg_ss, ct_ss, ct_cs, cw_get]))
      (fun k hk h4 _ => by rcases (show k = 0 ∨ k = 1 ∨ k = 2 ∨ k = 3 ∨ k = 4 ∨ k = 5 by omega) with rfl | rfl | rfl | rfl | rfl | rfl <;> first | exact absurd ⟨rfl, rfl⟩ h4 | (simp [ce, c_b, cg_cs, cg_ss, ct_ss, ct_cs, cw_get, cI, va_up]; done))
      (fun k hk hz _ h5 => by have hk5 : k ≠ 1 := fun z => h5 ⟨rfl, z⟩; simp [ce, c_b, cg_cs, cg_ss, ct_ss, ct_cs, cw_get, va_up, hk5])
      (fun k hk _ _ => by simp [ce, c_b, cg_cs, cg_ss, ct_ss, ct_cs, cw_get, cI])
      (fun k hk _ _ => by have hkn : k ≠ ct x 4 := Nat.ne_of_lt hk; simp [ce, c_b, cg_cs, cg_ss, ct_ss, ct_cs, cw_get, cI, hkn])
      (fun k hk _ _ => by have hx := Nat.ne_of_lt (c_pn ((hr11 k hk).2.1) (show ct x 4 < 2 ^ 31 by omega)).1; simp [ce, c_b, cg_cs, cg_ss, ct_ss, ct_cs, cw_get, cI, hx])
      (fun k hk _ _ => by have hx := Nat.ne_of_lt (c_pn ((hr18 k hk).2) (show ct x 4 < 2 ^ 31 by omega)).1; simp [ce, c_b, cg_cs, cg_ss, ct_ss, ct_cs, cw_get, cI, hx])
      (fun k hk _ _ => by have hx := Nat.ne_of_lt (c_pn ((hr6 k hk).2) (show ct x 4 < 2 ^ 31 by omega)).1; simp [ce, c_b, cg_cs, cg_ss, ct_ss, ct_cs, cw_get, cI, hx])
      (fun k hk _ _ => by have hx := Nat.ne_of_lt (c_pn ((hr23 k hk).2) (show ct x 4 < 2 ^ 31 by omega)).1; simp [ce, c_b, cg_cs, cg_ss, ct_ss, ct_cs, cw_get, cI, hx])
set_option maxHeartbeats 100000 in
theorem CA.push_A (hA : CA G b x w M) {N : Nat} (hi : q_inv N x) (hls : c_ls b x w) {q e : Nat} (hq : M q = none) {mc : Int32} {j m : Nat} (hj : j < ct x 2) (hm : m < ct x 4) {t : Int32} (he : w.2.1 2 ≠ 0 → e = b 5 2)
    (hp : j_added G (va_up M q (some (.inr (1, [.ref (b 6 j), .ref (b 7 m), .int t, .int (q_now x), .null, .int 0])))) (b 4 2) e q (ct x 17) (w.2.1 2) (w.2.2 2) mc M1) :
    ∃ (ea : Nat) (w1 : c_W), w1.1 = (cw (cw w 3 2 mc) 1 (ct x 17) 0).1 ∧ CA G (c_b b 2 (ct x 17) q ea) (ss (cs (cs (cs (cs (cs (cs x 11 (ct x 17) (nI j)) 12 (ct x 17) (nI m)) 13 (ct x 17) t) 14 (ct x 17) (q_now x)) 15 (ct x 17) 0) 16 (ct x 17) (-1)) 17 (ct x 17 + 1)) w1 M1 ∧ c_ls (c_b b 2 (ct x 17) q ea) (ss (cs (cs (cs (cs (cs (cs x 11 (ct x 17) (nI j)) 12 (ct x 17) (nI m)) 13 (ct x 17) t) 14 (ct x 17) (q_now x)) 15 (ct x 17) 0) 16 (ct x 17) (-1)) 17 (ct x 17 + 1)) w1 := by
  obtain ⟨⟨i2, i4, i5, i10, i17, i22, i29, i32⟩, hr3, hr6, hr11, hr18, hr23, hz21, hz28, hlb⟩ := id hi
  have pj : pn (nI j) = j := pn_nI (by omega)
  have pm : pn (nI m) = m := pn_nI (by omega)
  refine CA.push (i := 2) (x1 := ss (cs (cs (cs (cs (cs (cs x 11 (ct x 17) (nI j)) 12 (ct x 17) (nI m)) 13 (ct x 17) t) 14 (ct x 17) (q_now x)) 15 (ct x 17) 0) 16 (ct x 17) (-1)) 17 (ct x 17 + 1)) (w0 := (cw (cw w 3 2 mc) 1 (ct x 17) 0).1) hA hq (by decide) hls hp he rfl (fun j hj hne => ?_) ?_ (fun z => Nat.lt_irrefl _ z) (fun cp g s k hs => ?_) (fun ea cp g => ?_) (fun ea cp g => ?_)
  · rcases (show j = 0 ∨ j = 1 ∨ j = 2 ∨ j = 3 ∨ j = 4 ∨ j = 5 by omega) with rfl | rfl | rfl | rfl | rfl | rfl <;> first | exact absurd rfl hne | (simp [ce, c_b, cg_cs, cg_ss, ct_ss, ct_cs, cw_get, cI]; done)
  · simp [cw_get]
  · revert k
    revert s
    refine cl_cases (P := fun s k => cl x w s k ∨ (s = 5 ∧ k = 2) ∨ (s = 6 + 2 ∧ k = ct x 17)) (Or.inl rfl) (Or.inl rfl) (Or.inl rfl) (Or.inl rfl) (fun k hk => Or.inl hk) (fun k hk hz => ?_) (fun k hk => Or.inl hk) (fun k hk => Or.inl hk) (fun k hk => ?_) (fun k hk => Or.inl hk) (fun k hk => Or.inl hk) (fun k hk => Or.inl hk)
    · by_cases hki : k = 2
      · exact Or.inr (Or.inl ⟨rfl, hki⟩)
      · exact Or.inl ⟨hk, by have hz : va_up w.2.1 2 cp k ≠ 0 := hz; rw [va_up_ne _ _ hki] at hz; exact hz⟩
    · have hk : k < ct x 17 + 1 := hk
      rcases Nat.lt_or_ge k (ct x 17) with h | h
      · exact Or.inl h
      · exact Or.inr (Or.inr ⟨rfl, by omega⟩)
  · simp [ce, c_b, cg_cs, cg_ss, ct_ss, ct_cs, cw_get, cI, pj, pm, va_rf]
  · exact cl_cases (P := fun s k => ¬ (s = 4 ∧ k = 2) → ¬ (s = 5 ∧ k = 2) → ce G (c_b b 2 (ct x (cI 2)) q ea) (ss (cs (cs (cs (cs (cs (cs x 11 (ct x 17) (nI j)) 12 (ct x 17) (nI m)) 13 (ct x 17) t) 14 (ct x 17) (q_now x)) 15 (ct x 17) 0) 16 (ct x 17) (-1)) 17 (ct x 17 + 1)) ((cw (cw w 3 2 mc) 1 (ct x 17) 0).1, va_up w.2.1 2 cp, va_up w.2.2 2 g) s k = ce G b x w s k) (fun _ _ => by simp [ce, c_b, cg_cs, cg_ss, ct_ss, ct_cs, cw_get] <;> (funext z; simp [ce, c_b, cg_cs, cg_ss, ct_ss, ct_cs, cw_get]))
      (fun _ _ => by simp [ce, c_b, cg_cs, cg_ss, ct_ss, ct_cs, cw_get] <;> (funext z; simp [ce, c_b, cg_cs, cg_ss, ct_ss, ct_cs, cw_get]))
      (fun _ _ => by simp [ce, c_b, cg_cs, cg_ss, ct_ss, ct_cs, cw_get] <;> (funext z; simp [ce, c_b, cg_cs, cg_ss, ct_ss, ct_cs, cw_get]))
      (fun _ _ => by simp [ce, c_b, cg_cs, cg_ss, ct_ss, ct_cs, cw_get] <;> (funext z; simp [ce, c_b, cg_cs, cg_ss, ct_ss, ct_cs, cw_get]))
      (fun k hk h4 _ => by rcases (show k = 0 ∨ k = 1 ∨ k = 2 ∨ k = 3 ∨ k = 4 ∨ k = 5 by omega) with rfl | rfl | rfl | rfl | rfl | rfl <;> first | exact absurd ⟨rfl, rfl⟩ h4 | (simp [ce, c_b, cg_cs, cg_ss, ct_ss, ct_cs, cw_get, cI, va_up]; done))
      (fun k hk hz _ h5 => by have hk5 : k ≠ 2 := fun z => h5 ⟨rfl, z⟩; simp [ce, c_b, cg_cs, cg_ss, ct_ss, ct_cs, cw_get, va_up, hk5])
      (fun k hk _ _ => by simp [ce, c_b, cg_cs, cg_ss, ct_ss, ct_cs, cw_get, cI])
      (fun k hk _ _ => by simp [ce, c_b, cg_cs, cg_ss, ct_ss, ct_cs, cw_get, cI])
      (fun k hk _ _ => by have hkn : k ≠ ct x 17 := Nat.ne_of_lt hk; simp [ce, c_b, cg_cs, cg_ss, ct_ss, ct_cs, cw_get, cI, hkn])
      (fun k hk _ _ => by simp [ce, c_b, cg_cs, cg_ss, ct_ss, ct_cs, cw_get, cI])
      (fun k hk _ _ => by simp [ce, c_b, cg_cs, cg_ss, ct_ss, ct_cs, cw_get, cI])
      (fun k hk _ _ => by simp [ce, c_b, cg_cs, cg_ss, ct_ss, ct_cs, cw_get, cI])
set_option maxHeartbeats 100000 in
theorem CA.push_E (hA : CA G b x w M) {N : Nat} (hi : q_inv N x) (hls : c_ls b x w) {q e : Nat} (hq : M q = none) {mc : Int32} {j m : Nat} (hj : j < ct x 2) (hm : m < ct x 4) (he : w.2.1 3 ≠ 0 → e = b 5 3)
    (hp : j_added G (va_up M q (some (.inr (2, [.ref (b 6 j), .ref (b 7 m), .int (q_now x), .int 0])))) (b 4 3) e q (ct x 22) (w.2.1 3) (w.2.2 3) mc M1) :
    ∃ (ea : Nat) (w1 : c_W), w1.1 = (cw w 3 3 mc).1 ∧ CA G (c_b b 3 (ct x 22) q ea) (ss (cs (cs (cs x 18 (ct x 22) (nI j)) 19 (ct x 22) (nI m)) 20 (ct x 22) (q_now x)) 22 (ct x 22 + 1)) w1 M1 ∧ c_ls (c_b b 3 (ct x 22) q ea) (ss (cs (cs (cs x 18 (ct x 22) (nI j)) 19 (ct x 22) (nI m)) 20 (ct x 22) (q_now x)) 22 (ct x 22 + 1)) w1 := by
  obtain ⟨⟨i2, i4, i5, i10, i17, i22, i29, i32⟩, hr3, hr6, hr11, hr18, hr23, hz21, hz28, hlb⟩ := id hi
  have pj : pn (nI j) = j := pn_nI (by omega)
  have pm : pn (nI m) = m := pn_nI (by omega)
  refine CA.push (i := 3) (x1 := ss (cs (cs (cs x 18 (ct x 22) (nI j)) 19 (ct x 22) (nI m)) 20 (ct x 22) (q_now x)) 22 (ct x 22 + 1)) (w0 := (cw w 3 3 mc).1) hA hq (by decide) hls hp he rfl (fun j hj hne => ?_) ?_ (fun z => Nat.lt_irrefl _ z) (fun cp g s k hs => ?_) (fun ea cp g => ?_) (fun ea cp g => ?_)
  · rcases (show j = 0 ∨ j = 1 ∨ j = 2 ∨ j = 3 ∨ j = 4 ∨ j = 5 by omega) with rfl | rfl | rfl | rfl | rfl | rfl <;> first | exact absurd rfl hne | (simp [ce, c_b, cg_cs, cg_ss, ct_ss, ct_cs, cw_get, cI]; done)
  · simp [cw_get]
  · revert k
    revert s
    refine cl_cases (P := fun s k => cl x w s k ∨ (s = 5 ∧ k = 3) ∨ (s = 6 + 3 ∧ k = ct x 22)) (Or.inl rfl) (Or.inl rfl) (Or.inl rfl) (Or.inl rfl) (fun k hk => Or.inl hk) (fun k hk hz => ?_) (fun k hk => Or.inl hk) (fun k hk => Or.inl hk) (fun k hk => Or.inl hk) (fun k hk => ?_) (fun k hk => Or.inl hk) (fun k hk => Or.inl hk)
    · by_cases hki : k = 3
      · exact Or.inr (Or.inl ⟨rfl, hki⟩)
      · exact Or.inl ⟨hk, by have hz : va_up w.2.1 3 cp k ≠ 0 := hz; rw [va_up_ne _ _ hki] at hz; exact hz⟩
    · have hk : k < ct x 22 + 1 := hk
      rcases Nat.lt_or_ge k (ct x 22) with h | h
      · exact Or.inl h
      · exact Or.inr (Or.inr ⟨rfl, by omega⟩)
  · simp [ce, c_b, cg_cs, cg_ss, ct_ss, ct_cs, cw_get, cI, pj, pm, hz21]
  · exact cl_cases (P := fun s k => ¬ (s = 4 ∧ k = 3) → ¬ (s = 5 ∧ k = 3) → ce G (c_b b 3 (ct x (cI 3)) q ea) (ss (cs (cs (cs x 18 (ct x 22) (nI j)) 19 (ct x 22) (nI m)) 20 (ct x 22) (q_now x)) 22 (ct x 22 + 1)) ((cw w 3 3 mc).1, va_up w.2.1 3 cp, va_up w.2.2 3 g) s k = ce G b x w s k) (fun _ _ => by simp [ce, c_b, cg_cs, cg_ss, ct_ss, ct_cs, cw_get] <;> (funext z; simp [ce, c_b, cg_cs, cg_ss, ct_ss, ct_cs, cw_get]))
      (fun _ _ => by simp [ce, c_b, cg_cs, cg_ss, ct_ss, ct_cs, cw_get] <;> (funext z; simp [ce, c_b, cg_cs, cg_ss, ct_ss, ct_cs, cw_get]))
      (fun _ _ => by simp [ce, c_b, cg_cs, cg_ss, ct_ss, ct_cs, cw_get] <;> (funext z; simp [ce, c_b, cg_cs, cg_ss, ct_ss, ct_cs, cw_get]))
      (fun _ _ => by simp [ce, c_b, cg_cs, cg_ss, ct_ss, ct_cs, cw_get] <;> (funext z; simp [ce, c_b, cg_cs, cg_ss, ct_ss, ct_cs, cw_get]))
      (fun k hk h4 _ => by rcases (show k = 0 ∨ k = 1 ∨ k = 2 ∨ k = 3 ∨ k = 4 ∨ k = 5 by omega) with rfl | rfl | rfl | rfl | rfl | rfl <;> first | exact absurd ⟨rfl, rfl⟩ h4 | (simp [ce, c_b, cg_cs, cg_ss, ct_ss, ct_cs, cw_get, cI, va_up]; done))
      (fun k hk hz _ h5 => by have hk5 : k ≠ 3 := fun z => h5 ⟨rfl, z⟩; simp [ce, c_b, cg_cs, cg_ss, ct_ss, ct_cs, cw_get, va_up, hk5])
      (fun k hk _ _ => by simp [ce, c_b, cg_cs, cg_ss, ct_ss, ct_cs, cw_get, cI])
      (fun k hk _ _ => by simp [ce, c_b, cg_cs, cg_ss, ct_ss, ct_cs, cw_get, cI])
      (fun k hk _ _ => by simp [ce, c_b, cg_cs, cg_ss, ct_ss, ct_cs, cw_get, cI])
      (fun k hk _ _ => by have hkn : k ≠ ct x 22 := Nat.ne_of_lt hk; simp [ce, c_b, cg_cs, cg_ss, ct_ss, ct_cs, cw_get, cI, hkn])
      (fun k hk _ _ => by simp [ce, c_b, cg_cs, cg_ss, ct_ss, ct_cs, cw_get, cI])
      (fun k hk _ _ => by simp [ce, c_b, cg_cs, cg_ss, ct_ss, ct_cs, cw_get, cI])
set_option maxHeartbeats 100000 in
theorem CA.push_R (hA : CA G b x w M) {N : Nat} (hi : q_inv N x) (hls : c_ls b x w) {q e : Nat} (hq : M q = none) {mc : Int32} {j m : Nat} (hj : j < ct x 2) (hm : m < ct x 4) {t : Int32} (he : w.2.1 4 ≠ 0 → e = b 5 4)
    (hp : j_added G (va_up M q (some (.inr (5, [.ref (b 6 j), .ref (b 7 m), .int (q_now x), .int (q_now x + t)])))) (b 4 4) e q (ct x 10) (w.2.1 4) (w.2.2 4) mc M1) :
    ∃ (ea : Nat) (w1 : c_W), w1.1 = (cw w 3 4 mc).1 ∧ CA G (c_b b 4 (ct x 10) q ea) (q_grant x (nI j) (nI m) t) w1 M1 ∧ c_ls (c_b b 4 (ct x 10) q ea) (q_grant x (nI j) (nI m) t) w1 := by
  obtain ⟨⟨i2, i4, i5, i10, i17, i22, i29, i32⟩, hr3, hr6, hr11, hr18, hr23, hz21, hz28, hlb⟩ := id hi
  have pj : pn (nI j) = j := pn_nI (by omega)
  have pm : pn (nI m) = m := pn_nI (by omega)
  refine CA.push (i := 4) (x1 := q_grant x (nI j) (nI m) t) (w0 := (cw w 3 4 mc).1) hA hq (by decide) hls hp he rfl (fun j hj hne => ?_) ?_ (fun z => Nat.lt_irrefl _ z) (fun cp g s k hs => ?_) (fun ea cp g => ?_) (fun ea cp g => ?_)
  · rcases (show j = 0 ∨ j = 1 ∨ j = 2 ∨ j = 3 ∨ j = 4 ∨ j = 5 by omega) with rfl | rfl | rfl | rfl | rfl | rfl <;> first | exact absurd rfl hne | (simp [ce, c_b, cg_cs, cg_ss, ct_ss, ct_cs, cw_get, cI, q_grant]; done)
  · simp [cw_get]
  · revert k
    revert s
    refine cl_cases (P := fun s k => cl x w s k ∨ (s = 5 ∧ k = 4) ∨ (s = 6 + 4 ∧ k = ct x 10)) (Or.inl rfl) (Or.inl rfl) (Or.inl rfl) (Or.inl rfl) (fun k hk => Or.inl hk) (fun k hk hz => ?_) (fun k hk => Or.inl hk) (fun k hk => Or.inl hk) (fun k hk => Or.inl hk) (fun k hk => Or.inl hk) (fun k hk => ?_) (fun k hk => Or.inl hk)
    · by_cases hki : k = 4
      · exact Or.inr (Or.inl ⟨rfl, hki⟩)
      · exact Or.inl ⟨hk, by have hz : va_up w.2.1 4 cp k ≠ 0 := hz; rw [va_up_ne _ _ hki] at hz; exact hz⟩
    · have hk : k < ct x 10 + 1 := hk
      rcases Nat.lt_or_ge k (ct x 10) with h | h
      · exact Or.inl h
      · exact Or.inr (Or.inr ⟨rfl, by omega⟩)
  · simp [ce, c_b, cg_cs, cg_ss, ct_ss, ct_cs, cw_get, q_grant, cI, pj, pm]
  · exact cl_cases (P := fun s k => ¬ (s = 4 ∧ k = 4) → ¬ (s = 5 ∧ k = 4) → ce G (c_b b 4 (ct x (cI 4)) q ea) (q_grant x (nI j) (nI m) t) ((cw w 3 4 mc).1, va_up w.2.1 4 cp, va_up w.2.2 4 g) s k = ce G b x w s k) (fun _ _ => by simp [ce, c_b, cg_cs, cg_ss, ct_ss, ct_cs, cw_get, q_grant] <;> (funext z; simp [ce, c_b, cg_cs, cg_ss, ct_ss, ct_cs, cw_get]))
      (fun _ _ => by simp [ce, c_b, cg_cs, cg_ss, ct_ss, ct_cs, cw_get, q_grant] <;> (funext z; simp [ce, c_b, cg_cs, cg_ss, ct_ss, ct_cs, cw_get]))
      (fun _ _ => by simp [ce, c_b, cg_cs, cg_ss, ct_ss, ct_cs, cw_get, q_grant] <;> (funext z; simp [ce, c_b, cg_cs, cg_ss, ct_ss, ct_cs, cw_get]))
      (fun _ _ => by simp [ce, c_b, cg_cs, cg_ss, ct_ss, ct_cs, cw_get, q_grant] <;> (funext z; simp [ce, c_b, cg_cs, cg_ss, ct_ss, ct_cs, cw_get]))
      (fun k hk h4 _ => by rcases (show k = 0 ∨ k = 1 ∨ k = 2 ∨ k = 3 ∨ k = 4 ∨ k = 5 by omega) with rfl | rfl | rfl | rfl | rfl | rfl <;> first | exact absurd ⟨rfl, rfl⟩ h4 | (simp [ce, c_b, cg_cs, cg_ss, ct_ss, ct_cs, cw_get, cI, va_up, q_grant]; done))
      (fun k hk hz _ h5 => by have hk5 : k ≠ 4 := fun z => h5 ⟨rfl, z⟩; simp [ce, c_b, cg_cs, cg_ss, ct_ss, ct_cs, cw_get, va_up, hk5, q_grant])
      (fun k hk _ _ => by simp [ce, c_b, cg_cs, cg_ss, ct_ss, ct_cs, cw_get, cI, q_grant])
      (fun k hk _ _ => by simp [ce, c_b, cg_cs, cg_ss, ct_ss, ct_cs, cw_get, cI, q_grant])
      (fun k hk _ _ => by simp [ce, c_b, cg_cs, cg_ss, ct_ss, ct_cs, cw_get, cI, q_grant])
      (fun k hk _ _ => by simp [ce, c_b, cg_cs, cg_ss, ct_ss, ct_cs, cw_get, cI, q_grant])
      (fun k hk _ _ => by have hkn : k ≠ ct x 10 := Nat.ne_of_lt hk; simp [ce, c_b, cg_cs, cg_ss, ct_ss, ct_cs, cw_get, cI, hkn, q_grant])
      (fun k hk _ _ => by simp [ce, c_b, cg_cs, cg_ss, ct_ss, ct_cs, cw_get, cI, q_grant])
set_option maxHeartbeats 100000 in
theorem CA.push_S (hA : CA G b x w M) {N : Nat} (hi : q_inv N x) (hls : c_ls b x w) {q e : Nat} (hq : M q = none) {mc : Int32} {j m : Nat} (hj : j < ct x 2) (hm : m < ct x 4) (he : w.2.1 5 ≠ 0 → e = b 5 5)
    (hp : j_added G (va_up M q (some (.inr (6, [.ref (b 6 j), .ref (b 7 m), .int 0, .int (q_now x), .int (-1), .int 0])))) (b 4 5) e q (ct x 29) (w.2.1 5) (w.2.2 5) mc M1) :
    ∃ (ea : Nat) (w1 : c_W), w1.1 = (cw (cw w 3 5 mc) 2 (ct x 29) (-1)).1 ∧ CA G (c_b b 5 (ct x 29) q ea) (ss (cs (cs (cs (cs (cs x 23 (ct x 29) (nI j)) 24 (ct x 29) (nI m)) 25 (ct x 29) 1) 26 (ct x 29) (q_now x)) 27 (ct x 29) (-1)) 29 (ct x 29 + 1)) w1 M1 ∧ c_ls (c_b b 5 (ct x 29) q ea) (ss (cs (cs (cs (cs (cs x 23 (ct x 29) (nI j)) 24 (ct x 29) (nI m)) 25 (ct x 29) 1) 26 (ct x 29) (q_now x)) 27 (ct x 29) (-1)) 29 (ct x 29 + 1)) w1 := by
  obtain ⟨⟨i2, i4, i5, i10, i17, i22, i29, i32⟩, hr3, hr6, hr11, hr18, hr23, hz21, hz28, hlb⟩ := id hi
  have pj : pn (nI j) = j := pn_nI (by omega)
  have pm : pn (nI m) = m := pn_nI (by omega)
  refine CA.push (i := 5) (x1 := ss (cs (cs (cs (cs (cs x 23 (ct x 29) (nI j)) 24 (ct x 29) (nI m)) 25 (ct x 29) 1) 26 (ct x 29) (q_now x)) 27 (ct x 29) (-1)) 29 (ct x 29 + 1)) (w0 := (cw (cw w 3 5 mc) 2 (ct x 29) (-1)).1) hA hq (by decide) hls hp he rfl (fun j hj hne => ?_) ?_ (fun z => Nat.lt_irrefl _ z) (fun cp g s k hs => ?_) (fun ea cp g => ?_) (fun ea cp g => ?_)
  · rcases (show j = 0 ∨ j = 1 ∨ j = 2 ∨ j = 3 ∨ j = 4 ∨ j = 5 by omega) with rfl | rfl | rfl | rfl | rfl | rfl <;> first | exact absurd rfl hne | (simp [ce, c_b, cg_cs, cg_ss, ct_ss, ct_cs, cw_get, cI]; done)
  · simp [cw_get]
  · revert k
    revert s
    refine cl_cases (P := fun s k => cl x w s k ∨ (s = 5 ∧ k = 5) ∨ (s = 6 + 5 ∧ k = ct x 29)) (Or.inl rfl) (Or.inl rfl) (Or.inl rfl) (Or.inl rfl) (fun k hk => Or.inl hk) (fun k hk hz => ?_) (fun k hk => Or.inl hk) (fun k hk => Or.inl hk) (fun k hk => Or.inl hk) (fun k hk => Or.inl hk) (fun k hk => Or.inl hk) (fun k hk => ?_)
    · by_cases hki : k = 5
      · exact Or.inr (Or.inl ⟨rfl, hki⟩)
      · exact Or.inl ⟨hk, by have hz : va_up w.2.1 5 cp k ≠ 0 := hz; rw [va_up_ne _ _ hki] at hz; exact hz⟩
    · have hk : k < ct x 29 + 1 := hk
      rcases Nat.lt_or_ge k (ct x 29) with h | h
      · exact Or.inl h
      · exact Or.inr (Or.inr ⟨rfl, by omega⟩)
  · simp [ce, c_b, cg_cs, cg_ss, ct_ss, ct_cs, cw_get, cI, pj, pm, bI, hz28]
  · exact cl_cases (P := fun s k => ¬ (s = 4 ∧ k = 5) → ¬ (s = 5 ∧ k = 5) → ce G (c_b b 5 (ct x (cI 5)) q ea) (ss (cs (cs (cs (cs (cs x 23 (ct x 29) (nI j)) 24 (ct x 29) (nI m)) 25 (ct x 29) 1) 26 (ct x 29) (q_now x)) 27 (ct x 29) (-1)) 29 (ct x 29 + 1)) ((cw (cw w 3 5 mc) 2 (ct x 29) (-1)).1, va_up w.2.1 5 cp, va_up w.2.2 5 g) s k = ce G b x w s k) (fun _ _ => by simp [ce, c_b, cg_cs, cg_ss, ct_ss, ct_cs, cw_get] <;> (funext z; simp [ce, c_b, cg_cs, cg_ss, ct_ss, ct_cs, cw_get]))
      (fun _ _ => by simp [ce, c_b, cg_cs, cg_ss, ct_ss, ct_cs, cw_get] <;> (funext z; simp [ce, c_b, cg_cs, cg_ss, ct_ss, ct_cs, cw_get]))
      (fun _ _ => by simp [ce, c_b, cg_cs, cg_ss, ct_ss, ct_cs, cw_get] <;> (funext z; simp [ce, c_b, cg_cs, cg_ss, ct_ss, ct_cs, cw_get]))
      (fun _ _ => by simp [ce, c_b, cg_cs, cg_ss, ct_ss, ct_cs, cw_get] <;> (funext z; simp [ce, c_b, cg_cs, cg_ss, ct_ss, ct_cs, cw_get]))
      (fun k hk h4 _ => by rcases (show k = 0 ∨ k = 1 ∨ k = 2 ∨ k = 3 ∨ k = 4 ∨ k = 5 by omega) with rfl | rfl | rfl | rfl | rfl | rfl <;> first | exact absurd ⟨rfl, rfl⟩ h4 | (simp [ce, c_b, cg_cs, cg_ss, ct_ss, ct_cs, cw_get, cI, va_up]; done))
      (fun k hk hz _ h5 => by have hk5 : k ≠ 5 := fun z => h5 ⟨rfl, z⟩; simp [ce, c_b, cg_cs, cg_ss, ct_ss, ct_cs, cw_get, va_up, hk5])
      (fun k hk _ _ => by simp [ce, c_b, cg_cs, cg_ss, ct_ss, ct_cs, cw_get, cI])
      (fun k hk _ _ => by simp [ce, c_b, cg_cs, cg_ss, ct_ss, ct_cs, cw_get, cI])
      (fun k hk _ _ => by simp [ce, c_b, cg_cs, cg_ss, ct_ss, ct_cs, cw_get, cI])
      (fun k hk _ _ => by simp [ce, c_b, cg_cs, cg_ss, ct_ss, ct_cs, cw_get, cI])
      (fun k hk _ _ => by simp [ce, c_b, cg_cs, cg_ss, ct_ss, ct_cs, cw_get, cI])
      (fun k hk _ _ => by have hkn : k ≠ ct x 29 := Nat.ne_of_lt hk; simp [ce, c_b, cg_cs, cg_ss, ct_ss, ct_cs, cw_get, cI, hkn])
end CP
