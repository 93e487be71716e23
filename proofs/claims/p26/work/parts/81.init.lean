/-! the beginning: seven rows, people, machines -/
def PWd (G : mw_G) (b : c_B) (x : s_T) (w : c_W) (ad : Nat → Nat) (n : Nat) (M : mw_M) : Prop := ∃ Mx Mt : mw_M, M = mw_or Mx Mt ∧ mw_ds Mx Mt ∧ CA G b x w Mx ∧ c_ok (ct x 5) b x w ∧ (∀ k, k < n → Mt (ad k) = some (.inl (G.2.1 0, la_N k, .inl (fun _ => 0)))) ∧ ∀ j k, j < n → k < n → ad j = ad k → j = k
theorem PWd.zero {G : mw_G} {b : c_B} {x : s_T} {w : c_W} {M : mw_M} (ad : Nat → Nat) (hA : CA G b x w M) (ho : c_ok (ct x 5) b x w) : PWd G b x w ad 0 M :=
  ⟨M, mw_nil, (mw_or_nil M).symm, mw_ds_nil M, hA, ho, fun k hk => absurd hk (Nat.not_lt_zero _), fun j k hj => absurd hj (Nat.not_lt_zero _)⟩
theorem PWd.step {G : mw_G} {b : c_B} {x : s_T} {w : c_W} {ad : Nat → Nat} {n q : Nat} {M : mw_M} (h : PWd G b x w ad n M) (hq : M q = none) : PWd G b x w (va_up ad n q) (n + 1) (va_up M q (some (.inl (G.2.1 0, la_N n, .inl (fun _ => 0))))) := by
  obtain ⟨Mx, Mt, rfl, hds, hA, ho, h1, h2⟩ := h
  have hx : Mx q = none ∧ Mt q = none := by
    unfold mw_or at hq
    cases e : Mx q with
    | none => rw [e] at hq; exact ⟨rfl, hq⟩
    | some e9 => rw [e] at hq; cases hq
  have hne : ∀ k, k < n → ad k ≠ q := fun k hk z => by
    have := h1 k hk
    rw [z, hx.2] at this
    cases this
  refine ⟨Mx, va_up Mt q (some (.inl (G.2.1 0, la_N n, .inl (fun _ => 0)))), ?_, fun a ha => ?_, hA, ho, fun k hk => ?_, fun j k hj hk hz => ?_⟩
  · funext a
    by_cases ha : a = q
    · subst ha
      rw [va_up_self]
      unfold mw_or
      rw [hx.1, va_up_self]
      rfl
    · rw [va_up_ne _ _ ha]
      unfold mw_or
      rw [va_up_ne _ _ ha]
  · rw [va_up_ne _ _ (fun z : a = q => ha (z ▸ hx.1))]
    exact hds a ha
  · by_cases hn : k = n
    · subst hn
      rw [va_up_self, va_up_self]
    · rw [va_up_ne _ _ hn, va_up_ne _ _ (hne k (by omega))]
      exact h1 k (by omega)
  · by_cases hjn : j = n
    · by_cases hkn : k = n
      · omega
      · subst hjn
        rw [va_up_self, va_up_ne _ _ hkn] at hz
        exact absurd hz.symm (hne k (by omega))
    · by_cases hkn : k = n
      · subst hkn
        rw [va_up_self, va_up_ne _ _ hjn] at hz
        exact absurd hz (hne j (by omega))
      · rw [va_up_ne _ _ hjn, va_up_ne _ _ hkn] at hz
        exact h2 j k (by omega) (by omega) hz
theorem PWd.done {G : mw_G} {b : c_B} {x : s_T} {w : c_W} {ad : Nat → Nat} {M : mw_M} (h : PWd G b x w ad 7 M) : LW G (b 0 0) ad x (fun _ _ => 0) M := by
  obtain ⟨Mx, Mt, rfl, hds, hA, ho, h1, h2⟩ := h
  exact ⟨Mx, Mt, b, w, rfl, hds, rfl, hA, ho, h1, h2⟩
/-- k people and n machines, nothing else -/
def ST (k n : Nat) (x : s_T) (z : Nat → Nat → Int32) : Prop := ct x 2 = k ∧ ct x 4 = n ∧ (∀ f, f ≠ 2 → f ≠ 4 → ct x f = 0) ∧ (∀ j, j < k → z 0 (2 * j) = cg x 0 j ∧ ∀ t, t < 2 → c_bit (z 0 (2 * j + 1)) t = cg x 1 (4 * j + t)) ∧ (∀ j, j < n → z 1 j = cg x 3 j ∧ q_ref (cg x 3 j) 2) ∧ ∀ j, z 2 j = if j = 8 then 1 else 0
theorem ST_0 : ST 0 0 s_0 (zs (fun _ _ => 0) 2 8 1) :=
  ⟨rfl, rfl, fun _ _ _ => rfl, fun j hj => absurd hj (Nat.not_lt_zero _), fun j hj => absurd hj (Nat.not_lt_zero _), fun j => by rw [zs_get, if_pos rfl]⟩
section SS
variable {x : s_T} {z : Nat → Nat → Int32}
theorem l_bit10 : c_bit 1 0 = 1 ∧ c_bit 1 1 = 0 ∧ c_bit 3 0 = 1 ∧ c_bit 3 1 = 1 := by decide
theorem ST.personA {k v : Nat} (h : ST k 0 x z) (hz : q_zl x) : ST (k + 1) 0 (cs (f_addPerson_s x (nI v)) 1 (4 * k) 1) (zs (zs z 0 (2 * k) (nI v)) 0 (2 * k + 1) 1) := by
  obtain ⟨a1, a2, a3, a4, a5, a6⟩ := h
  refine ⟨by show ct x 2 + 1 = k + 1; rw [a1], a2, fun f h2 h4 => ?_, fun j hj => ?_, fun j hj => absurd hj (Nat.not_lt_zero _), fun j => ?_⟩
  · unfold f_addPerson_s
    rw [ct_cs, ct_ss, if_neg h2]
    exact a3 f h2 h4
  · have e0 : cg (cs (f_addPerson_s x (nI v)) 1 (4 * k) 1) 0 j = if j = k then nI v else cg x 0 j := by
      unfold f_addPerson_s
      rw [cg_cs, if_neg (by decide), cg_ss, cg_cs, if_pos rfl, a1]
    have e1 : ∀ q, cg (cs (f_addPerson_s x (nI v)) 1 (4 * k) 1) 1 q = if q = 4 * k then 1 else cg x 1 q := fun q => by
      unfold f_addPerson_s
      simp [cg_cs, cg_ss]
    by_cases hjk : j = k
    · subst hjk
      refine ⟨?_, fun t ht => ?_⟩
      · rw [e0, if_pos rfl, zs_get, if_pos rfl, if_neg (by omega), zs_get, if_pos rfl, if_pos rfl]
      · rw [e1, zs_get, if_pos rfl, if_pos rfl]
        rcases (show t = 0 ∨ t = 1 by omega) with rfl | rfl
        · rw [if_pos (by omega)]; exact l_bit10.1
        · rw [if_neg (by omega), hz (4 * j + 1) (by rw [a1]; omega)]; exact l_bit10.2.1
    · obtain ⟨q1, q2⟩ := a4 j (by omega)
      refine ⟨?_, fun t ht => ?_⟩
      · rw [e0, if_neg hjk, zs_get, if_pos rfl, if_neg (by omega), zs_get, if_pos rfl, if_neg (by omega)]; exact q1
      · rw [e1, if_neg (by omega), zs_get, if_pos rfl, if_neg (by omega), zs_get, if_pos rfl, if_neg (by omega)]; exact q2 t ht
  · rw [zs_get, if_neg (by decide), zs_get, if_neg (by decide)]; exact a6 j
theorem ST.personB {k v : Nat} (h : ST k 0 x z) : ST (k + 1) 0 (cs (cs (f_addPerson_s x (nI v)) 1 (4 * k) 1) 1 (4 * k + 1) 1) (zs (zs z 0 (2 * k) (nI v)) 0 (2 * k + 1) 3) := by
  obtain ⟨a1, a2, a3, a4, a5, a6⟩ := h
  refine ⟨by show ct x 2 + 1 = k + 1; rw [a1], a2, fun f h2 h4 => ?_, fun j hj => ?_, fun j hj => absurd hj (Nat.not_lt_zero _), fun j => ?_⟩
  · unfold f_addPerson_s
    rw [ct_cs, ct_cs, ct_ss, if_neg h2]
    exact a3 f h2 h4
  · have e0 : cg (cs (cs (f_addPerson_s x (nI v)) 1 (4 * k) 1) 1 (4 * k + 1) 1) 0 j = if j = k then nI v else cg x 0 j := by
      unfold f_addPerson_s
      rw [cg_cs, if_neg (by decide), cg_cs, if_neg (by decide), cg_ss, cg_cs, if_pos rfl, a1]
    have e1 : ∀ q, cg (cs (cs (f_addPerson_s x (nI v)) 1 (4 * k) 1) 1 (4 * k + 1) 1) 1 q = if q = 4 * k + 1 then 1 else if q = 4 * k then 1 else cg x 1 q := fun q => by
      unfold f_addPerson_s
      simp [cg_cs, cg_ss]
    by_cases hjk : j = k
    · subst hjk
      refine ⟨?_, fun t ht => ?_⟩
      · rw [e0, if_pos rfl, zs_get, if_pos rfl, if_neg (by omega), zs_get, if_pos rfl, if_pos rfl]
      · rw [e1, zs_get, if_pos rfl, if_pos rfl]
        rcases (show t = 0 ∨ t = 1 by omega) with rfl | rfl
        · rw [if_neg (by omega), if_pos (by omega)]; exact l_bit10.2.2.1
        · rw [if_pos rfl]; exact l_bit10.2.2.2
    · obtain ⟨q1, q2⟩ := a4 j (by omega)
      refine ⟨?_, fun t ht => ?_⟩
      · rw [e0, if_neg hjk, zs_get, if_pos rfl, if_neg (by omega), zs_get, if_pos rfl, if_neg (by omega)]; exact q1
      · rw [e1, if_neg (by omega), if_neg (by omega), zs_get, if_pos rfl, if_neg (by omega), zs_get, if_pos rfl, if_neg (by omega)]; exact q2 t ht
  · rw [zs_get, if_neg (by decide), zs_get, if_neg (by decide)]; exact a6 j
theorem ST.machine {n : Nat} (h : ST 5 n x z) : ST 5 (n + 1) (f_addMachine_s x (nI (n % 2))) (zs z 1 n (nI (n % 2))) := by
  obtain ⟨a1, a2, a3, a4, a5, a6⟩ := h
  refine ⟨a1, by show ct x 4 + 1 = n + 1; rw [a2], fun f h2 h4 => ?_, a4, fun j hj => ?_, fun j => ?_⟩
  · unfold f_addMachine_s
    rw [ct_ss, if_neg h4, ct_cs]
    exact a3 f h2 h4
  · have e : cg (f_addMachine_s x (nI (n % 2))) 3 j = if j = n then nI (n % 2) else cg x 3 j := by
      unfold f_addMachine_s
      rw [cg_ss, cg_cs, if_pos rfl, a2]
    rw [e, zs_get, if_pos rfl]
    by_cases hjn : j = n
    · rw [if_pos hjn, if_pos hjn]
      exact ⟨rfl, n % 2, Nat.mod_lt _ (by decide), rfl⟩
    · rw [if_neg hjn, if_neg hjn]
      exact a5 j (by omega)
  · rw [zs_get, if_neg (by decide)]; exact a6 j
theorem ST.done {N : Nat} (h : ST 5 3 x z) (hq : q_ok N x) : LSt N 0 x (zs (zs z 2 0 5) 2 1 3) := by
  obtain ⟨a1, a2, a3, a4, a5, a6⟩ := h
  have z2 : ∀ j, j ≠ 0 → j ≠ 1 → j ≠ 8 → zs (zs z 2 0 5) 2 1 3 2 j = nI 0 := fun j h0 h1 h8 => by
    rw [zs_get, if_pos rfl, if_neg h1, zs_get, if_pos rfl, if_neg h0, a6, if_neg h8]
    rfl
  have z8 : zs (zs z 2 0 5) 2 1 3 2 8 = 1 := by
    rw [zs_get, if_pos rfl, if_neg (by decide), zs_get, if_pos rfl, if_neg (by decide), a6, if_pos rfl]
  have el : q_last x = 1 := by
    unfold q_last
    rw [if_pos (a3 32 (by decide) (by decide))]
  have c10 := a3 10 (by decide) (by decide)
  have c17 := a3 17 (by decide) (by decide)
  have c22 := a3 22 (by decide) (by decide)
  have c29 := a3 29 (by decide) (by decide)
  refine ⟨⟨fun k hk => ?_, fun k hk => ?_, ⟨?_, ?_, ?_, ?_, ?_, ?_, ?_, ?_, ?_⟩, fun k hk => ?_, fun k hk => ?_, fun k hk => ?_, fun k hk => ?_⟩, ⟨a1, a2, by omega, by omega, by omega, by omega, fun k hk => (a5 k hk).2, ⟨1, by decide, by rw [el]; rfl⟩, fun k hk => by omega, fun k hk => by omega⟩, hq, a3 5 (by decide) (by decide), fun k hk => by omega⟩
  · rw [zs_get, if_neg (by decide), zs_get, if_neg (by decide), zs_get, if_neg (by decide), zs_get, if_neg (by decide)]
    exact a4 k hk
  · rw [zs_get, if_neg (by decide), zs_get, if_neg (by decide)]
    exact (a5 k hk).1
  · rw [a1, zs_get, if_pos rfl, if_neg (by decide), zs_get, if_pos rfl, if_pos rfl]; rfl
  · rw [a2, zs_get, if_pos rfl, if_pos rfl]; rfl
  · rw [a3 5 (by decide) (by decide)]; exact z2 2 (by decide) (by decide) (by decide)
  · rw [c10]; exact z2 3 (by decide) (by decide) (by decide)
  · rw [c17]; exact z2 4 (by decide) (by decide) (by decide)
  · rw [c22]; exact z2 5 (by decide) (by decide) (by decide)
  · rw [c29]; exact z2 6 (by decide) (by decide) (by decide)
  · rw [a3 32 (by decide) (by decide)]; exact z2 7 (by decide) (by decide) (by decide)
  · rw [el]; exact z8
  · omega
  · omega
  · omega
  · omega
theorem l_apc {v : Nat} (h : ct x 2 < 12) (hv : v < 3) : f_addPerson_c x (nI v) = 0 := by
  unfold f_addPerson_c
  rw [show q_in (nI v) 0 3 = true from l_inT (lo := 0) (hi := 3) (Nat.zero_le _) (by omega) (by decide), decide_eq_true h]
  rfl
theorem l_amc {v : Nat} (h : ct x 4 < 8) (hv : v < 2) : f_addMachine_c x (nI v) = 0 := by
  unfold f_addMachine_c
  rw [show q_in (nI v) 0 3 = true from l_inT (lo := 0) (hi := 3) (Nat.zero_le _) (by omega) (by decide), decide_eq_true h]
  rfl
theorem l_slc2 {a b : Nat} (ha : a < ct x 2) (h2 : ct x 2 < 2 ^ 31) (hb : b < 4) : f_setLabel_c x (nI a) (nI b) = 0 := by
  unfold f_setLabel_c
  rw [l_ix ha h2, show q_in (nI b) 0 3 = true from l_inT (lo := 0) (hi := 3) (Nat.zero_le _) (by omega) (by decide)]
  rfl
theorem l_sls {a b : Nat} (ha : a < 2 ^ 31) (hb : b < 2 ^ 31) : f_setLabel_s x (nI a) (nI b) true = (cs x 1 (4 * a + b) 1, 0) := by
  unfold f_setLabel_s
  rw [pn_nI ha, pn_nI hb]
  rfl
theorem LSt.mono {N K T : Nat} (h : LSt N T x z) (hk : N ≤ K) : LSt K T x z := ⟨h.1, h.2.1, ⟨q_inv_mono h.2.2.1.1 hk, h.2.2.1.2⟩, h.2.2.2⟩
end SS
