/-! the class's world: what lies where, and what a write does to it -/
abbrev c_upd (f : Nat → Int32) (k : Nat) (v : Int32) : Nat → Int32 := upd f k v
theorem cI_5 (k : Nat) : cI k ≠ 5 := by unfold cI; split <;> decide
theorem cI_32 (k : Nat) : cI k ≠ 32 := by unfold cI; split <;> decide
def cw (w : c_W) (j k : Nat) (v : Int32) : c_W := (va_up w.1 j (upd (w.1 j) k v), w.2)
theorem cw_get (w : c_W) (j k : Nat) (v : Int32) (i z : Nat) : (cw w j k v).1 i z = if i = j then (if z = k then v else w.1 i z) else w.1 i z := by
  unfold cw va_up
  by_cases h : i = j
  · subst h
    simp [upd]
  · simp [h]
section CWt
variable {G : mw_G} {b : c_B} {x x' : s_T} {w w' : c_W} {M M1 : mw_M} {T : Nat}
theorem CA.gate (h : CA G b x w M)  : M (b 0 0) = some (.inr (8, [.ref (b 4 0), .ref (b 4 1), .ref (b 4 2), .ref (b 4 3), .ref (b 4 4), .ref (b 4 5), .ref (b 1 0), .int (w.1 4 0), .int (nI (ct x 5))])) := h.1 0 0 rfl
theorem CA.rec (h : CA G b x w M)  : M (b 1 0) = some (.inr (7, [.ref (b 2 0), .ref (b 3 0), .int (nI (ct x 32)), .int (w.1 5 0)])) := h.1 1 0 rfl
theorem CA.per (h : CA G b x w M) {k : Nat} (hk : k < ct x 2) : M (b 6 k) = some (.inr (4, [.int (nI k), .int (cg x 0 k), .int (w.1 0 k)])) := h.1 6 k hk
theorem CA.mac (h : CA G b x w M) {k : Nat} (hk : k < ct x 4) : M (b 7 k) = some (.inr (3, [.int (nI k), .int (cg x 3 k)])) := h.1 7 k hk
theorem CA.ask (h : CA G b x w M) {k : Nat} (hk : k < ct x 17) : M (b 8 k) = some (.inr (1, [.ref (b 6 (pn (cg x 11 k))), .ref (b 7 (pn (cg x 12 k))), .int (cg x 13 k), .int (cg x 14 k), va_rf (if cg x 16 k = -1 then none else some (b 6 (pn (cg x 16 k)))), .int (w.1 1 k)])) := h.1 8 k hk
theorem CA.ent (h : CA G b x w M) {k : Nat} (hk : k < ct x 22) : M (b 9 k) = some (.inr (2, [.ref (b 6 (pn (cg x 18 k))), .ref (b 7 (pn (cg x 19 k))), .int (cg x 20 k), .int (cg x 21 k)])) := h.1 9 k hk
theorem CA.rig (h : CA G b x w M) {k : Nat} (hk : k < ct x 10) : M (b 10 k) = some (.inr (5, [.ref (b 6 (pn (cg x 6 k))), .ref (b 7 (pn (cg x 7 k))), .int (cg x 8 k), .int (cg x 9 k)])) := h.1 10 k hk
theorem CA.ses (h : CA G b x w M) {k : Nat} (hk : k < ct x 29) : M (b 11 k) = some (.inr (6, [.ref (b 6 (pn (cg x 23 k))), .ref (b 7 (pn (cg x 24 k))), .int (bI (decide (cg x 25 k = 0))), .int (cg x 26 k), .int (w.1 2 k), .int (cg x 28 k)])) := h.1 11 k hk
theorem CA.kin (h : CA G b x w M) : M (b 2 0) = some (.inl (G.2.1 0, 1024, .inl (cg x 30))) := h.1 2 0 rfl
theorem CA.sea (h : CA G b x w M) : M (b 3 0) = some (.inl (G.2.1 0, 1024, .inl (cg x 31))) := h.1 3 0 rfl
theorem CA.setBits (h : CA G b x w M) {k0 : Nat} (hk0 : k0 < ct x 2) (v : Int32) : CA G b (x) (cw w 0 k0 v) (va_up M (b 6 k0) (some (.inr (4, [.int (nI k0), .int (cg x 0 k0), .int v])))) := by
  refine h.upd (s0 := 6) (k0 := k0) hk0 (fun _ _ h => h) ?_ (cl_cases (P := fun s k => (s ≠ 6 ∨ k ≠ k0) → ce G b (x) (cw w 0 k0 v) s k = ce G b x w s k) (fun h => rfl) (fun h => rfl) (fun h => rfl) (fun h => rfl) (fun k hk h => rfl) (fun k _ _ h => rfl) (fun k hk h => by have hq := h.resolve_left (fun z => z rfl); simp [ce, cg_cs, cw_get, hq]) (fun k hk h => rfl) (fun k hk h => rfl) (fun k hk h => rfl) (fun k hk h => rfl) (fun k hk h => rfl))
  simp [ce, cg_cs, cw_get, ct_ss]
theorem CA.setEnd (h : CA G b x w M) {k0 : Nat} (hk0 : k0 < ct x 10) (v : Int32) : CA G b (cs x 9 k0 v) (w) (va_up M (b 10 k0) (some (.inr (5, [.ref (b 6 (pn (cg x 6 k0))), .ref (b 7 (pn (cg x 7 k0))), .int (cg x 8 k0), .int v])))) := by
  refine h.upd (s0 := 10) (k0 := k0) hk0 (fun _ _ h => h) ?_ (cl_cases (P := fun s k => (s ≠ 10 ∨ k ≠ k0) → ce G b (cs x 9 k0 v) (w) s k = ce G b x w s k) (fun h => rfl) (fun h => rfl) (fun h => rfl) (fun h => rfl) (fun k hk h => rfl) (fun k _ _ h => rfl) (fun k hk h => rfl) (fun k hk h => rfl) (fun k hk h => rfl) (fun k hk h => rfl) (fun k hk h => by have hq := h.resolve_left (fun z => z rfl); simp [ce, cg_cs, cw_get, hq]) (fun k hk h => rfl))
  simp [ce, cg_cs, cw_get, ct_ss]
theorem CA.setSt (h : CA G b x w M) {k0 : Nat} (hk0 : k0 < ct x 17) (v : Int32) : CA G b (x) (cw w 1 k0 v) (va_up M (b 8 k0) (some (.inr (1, [.ref (b 6 (pn (cg x 11 k0))), .ref (b 7 (pn (cg x 12 k0))), .int (cg x 13 k0), .int (cg x 14 k0), va_rf (if cg x 16 k0 = -1 then none else some (b 6 (pn (cg x 16 k0)))), .int v])))) := by
  refine h.upd (s0 := 8) (k0 := k0) hk0 (fun _ _ h => h) ?_ (cl_cases (P := fun s k => (s ≠ 8 ∨ k ≠ k0) → ce G b (x) (cw w 1 k0 v) s k = ce G b x w s k) (fun h => rfl) (fun h => rfl) (fun h => rfl) (fun h => rfl) (fun k hk h => rfl) (fun k _ _ h => rfl) (fun k hk h => rfl) (fun k hk h => rfl) (fun k hk h => by have hq := h.resolve_left (fun z => z rfl); simp [ce, cg_cs, cw_get, hq]) (fun k hk h => rfl) (fun k hk h => rfl) (fun k hk h => rfl))
  simp [ce, cg_cs, cw_get, ct_ss]
theorem CA.setFa (h : CA G b x w M) {k0 : Nat} (hk0 : k0 < ct x 17) (v : Int32) : CA G b (cs x 16 k0 v) (w) (va_up M (b 8 k0) (some (.inr (1, [.ref (b 6 (pn (cg x 11 k0))), .ref (b 7 (pn (cg x 12 k0))), .int (cg x 13 k0), .int (cg x 14 k0), va_rf (if v = -1 then none else some (b 6 (pn v))), .int (w.1 1 k0)])))) := by
  refine h.upd (s0 := 8) (k0 := k0) hk0 (fun _ _ h => h) ?_ (cl_cases (P := fun s k => (s ≠ 8 ∨ k ≠ k0) → ce G b (cs x 16 k0 v) (w) s k = ce G b x w s k) (fun h => by simp [ce, cg_cs, ct_cs] <;> rfl) (fun h => by simp [ce, cg_cs, ct_cs] <;> rfl) (fun h => by simp [ce, cg_cs, ct_cs] <;> rfl) (fun h => by simp [ce, cg_cs, ct_cs] <;> rfl) (fun k hk h => by simp [ce, cg_cs, ct_cs] <;> rfl) (fun k _ _ h => by simp [ce, cg_cs, ct_cs] <;> rfl) (fun k hk h => by simp [ce, cg_cs, ct_cs] <;> rfl) (fun k hk h => by simp [ce, cg_cs, ct_cs] <;> rfl) (fun k hk h => by have hq := h.resolve_left (fun z => z rfl); simp [ce, cg_cs, cw_get, hq]) (fun k hk h => by simp [ce, cg_cs, ct_cs] <;> rfl) (fun k hk h => by simp [ce, cg_cs, ct_cs] <;> rfl) (fun k hk h => by simp [ce, cg_cs, ct_cs] <;> rfl))
  simp [ce, cg_cs, cw_get, ct_ss]
theorem CA.setLook (h : CA G b x w M) {k0 : Nat} (hk0 : k0 < ct x 22) (v : Int32) : CA G b (cs x 21 k0 v) (w) (va_up M (b 9 k0) (some (.inr (2, [.ref (b 6 (pn (cg x 18 k0))), .ref (b 7 (pn (cg x 19 k0))), .int (cg x 20 k0), .int v])))) := by
  refine h.upd (s0 := 9) (k0 := k0) hk0 (fun _ _ h => h) ?_ (cl_cases (P := fun s k => (s ≠ 9 ∨ k ≠ k0) → ce G b (cs x 21 k0 v) (w) s k = ce G b x w s k) (fun h => rfl) (fun h => rfl) (fun h => rfl) (fun h => rfl) (fun k hk h => rfl) (fun k _ _ h => rfl) (fun k hk h => rfl) (fun k hk h => rfl) (fun k hk h => rfl) (fun k hk h => by have hq := h.resolve_left (fun z => z rfl); simp [ce, cg_cs, cw_get, hq]) (fun k hk h => rfl) (fun k hk h => rfl))
  simp [ce, cg_cs, cw_get, ct_ss]
theorem CA.setClosed (h : CA G b x w M) {k0 : Nat} (hk0 : k0 < ct x 29) (v : Int32) : CA G b (cs x 25 k0 v) (w) (va_up M (b 11 k0) (some (.inr (6, [.ref (b 6 (pn (cg x 23 k0))), .ref (b 7 (pn (cg x 24 k0))), .int (bI (decide (v = 0))), .int (cg x 26 k0), .int (w.1 2 k0), .int (cg x 28 k0)])))) := by
  refine h.upd (s0 := 11) (k0 := k0) hk0 (fun _ _ h => h) ?_ (cl_cases (P := fun s k => (s ≠ 11 ∨ k ≠ k0) → ce G b (cs x 25 k0 v) (w) s k = ce G b x w s k) (fun h => rfl) (fun h => rfl) (fun h => rfl) (fun h => rfl) (fun k hk h => rfl) (fun k _ _ h => rfl) (fun k hk h => rfl) (fun k hk h => rfl) (fun k hk h => rfl) (fun k hk h => rfl) (fun k hk h => rfl) (fun k hk h => by have hq := h.resolve_left (fun z => z rfl); simp [ce, cg_cs, cw_get, hq]))
  simp [ce, cg_cs, cw_get, ct_ss]
theorem CA.setLine (h : CA G b x w M) {k0 : Nat} (hk0 : k0 < ct x 29) (v : Int32) : CA G b (cs x 26 k0 v) (w) (va_up M (b 11 k0) (some (.inr (6, [.ref (b 6 (pn (cg x 23 k0))), .ref (b 7 (pn (cg x 24 k0))), .int (bI (decide (cg x 25 k0 = 0))), .int v, .int (w.1 2 k0), .int (cg x 28 k0)])))) := by
  refine h.upd (s0 := 11) (k0 := k0) hk0 (fun _ _ h => h) ?_ (cl_cases (P := fun s k => (s ≠ 11 ∨ k ≠ k0) → ce G b (cs x 26 k0 v) (w) s k = ce G b x w s k) (fun h => rfl) (fun h => rfl) (fun h => rfl) (fun h => rfl) (fun k hk h => rfl) (fun k _ _ h => rfl) (fun k hk h => rfl) (fun k hk h => rfl) (fun k hk h => rfl) (fun k hk h => rfl) (fun k hk h => rfl) (fun k hk h => by have hq := h.resolve_left (fun z => z rfl); simp [ce, cg_cs, cw_get, hq]))
  simp [ce, cg_cs, cw_get, ct_ss]
theorem CA.setHeld (h : CA G b x w M) {k0 : Nat} (hk0 : k0 < ct x 29) (v : Int32) : CA G b (x) (cw w 2 k0 v) (va_up M (b 11 k0) (some (.inr (6, [.ref (b 6 (pn (cg x 23 k0))), .ref (b 7 (pn (cg x 24 k0))), .int (bI (decide (cg x 25 k0 = 0))), .int (cg x 26 k0), .int v, .int (cg x 28 k0)])))) := by
  refine h.upd (s0 := 11) (k0 := k0) hk0 (fun _ _ h => h) ?_ (cl_cases (P := fun s k => (s ≠ 11 ∨ k ≠ k0) → ce G b (x) (cw w 2 k0 v) s k = ce G b x w s k) (fun h => rfl) (fun h => rfl) (fun h => rfl) (fun h => rfl) (fun k hk h => rfl) (fun k _ _ h => rfl) (fun k hk h => rfl) (fun k hk h => rfl) (fun k hk h => rfl) (fun k hk h => rfl) (fun k hk h => rfl) (fun k hk h => by have hq := h.resolve_left (fun z => z rfl); simp [ce, cg_cs, cw_get, hq]))
  simp [ce, cg_cs, cw_get, ct_ss]
theorem CA.setThru (h : CA G b x w M) {k0 : Nat} (hk0 : k0 < ct x 29) (v : Int32) : CA G b (cs x 28 k0 v) (w) (va_up M (b 11 k0) (some (.inr (6, [.ref (b 6 (pn (cg x 23 k0))), .ref (b 7 (pn (cg x 24 k0))), .int (bI (decide (cg x 25 k0 = 0))), .int (cg x 26 k0), .int (w.1 2 k0), .int v])))) := by
  refine h.upd (s0 := 11) (k0 := k0) hk0 (fun _ _ h => h) ?_ (cl_cases (P := fun s k => (s ≠ 11 ∨ k ≠ k0) → ce G b (cs x 28 k0 v) (w) s k = ce G b x w s k) (fun h => rfl) (fun h => rfl) (fun h => rfl) (fun h => rfl) (fun k hk h => rfl) (fun k _ _ h => rfl) (fun k hk h => rfl) (fun k hk h => rfl) (fun k hk h => rfl) (fun k hk h => rfl) (fun k hk h => rfl) (fun k hk h => by have hq := h.resolve_left (fun z => z rfl); simp [ce, cg_cs, cw_get, hq]))
  simp [ce, cg_cs, cw_get, ct_ss]
theorem CA.setOpen (h : CA G b x w M)  (v : Int32) : CA G b (x) (cw w 4 0 v) (va_up M (b 0 0) (some (.inr (8, [.ref (b 4 0), .ref (b 4 1), .ref (b 4 2), .ref (b 4 3), .ref (b 4 4), .ref (b 4 5), .ref (b 1 0), .int v, .int (nI (ct x 5))])))) := by
  refine h.upd (s0 := 0) (k0 := 0) rfl (fun _ _ h => h) ?_ (cl_cases (P := fun s k => (s ≠ 0 ∨ k ≠ 0) → ce G b (x) (cw w 4 0 v) s k = ce G b x w s k) (fun h => (h.elim (fun z => absurd rfl z) (fun z => absurd rfl z))) (fun h => rfl) (fun h => rfl) (fun h => rfl) (fun k hk h => rfl) (fun k _ _ h => rfl) (fun k hk h => rfl) (fun k hk h => rfl) (fun k hk h => rfl) (fun k hk h => rfl) (fun k hk h => rfl) (fun k hk h => rfl))
  rfl
theorem CA.setNow (h : CA G b x w M)  (v : Nat) : CA G b (ss x 5 v) (w) (va_up M (b 0 0) (some (.inr (8, [.ref (b 4 0), .ref (b 4 1), .ref (b 4 2), .ref (b 4 3), .ref (b 4 4), .ref (b 4 5), .ref (b 1 0), .int (w.1 4 0), .int (nI v)])))) := by
  refine h.upd (s0 := 0) (k0 := 0) rfl (fun _ _ h => h) ?_ (cl_cases (P := fun s k => (s ≠ 0 ∨ k ≠ 0) → ce G b (ss x 5 v) (w) s k = ce G b x w s k) (fun h => (h.elim (fun z => absurd rfl z) (fun z => absurd rfl z))) (fun h => rfl) (fun h => rfl) (fun h => rfl) (fun k hk h => by simp [ce, ct_ss, cI_5]) (fun k _ _ h => rfl) (fun k hk h => rfl) (fun k hk h => rfl) (fun k hk h => rfl) (fun k hk h => rfl) (fun k hk h => rfl) (fun k hk h => rfl))
  rfl
theorem CA.setCnt (h : CA G b x w M)  (n : Nat) (v : Int32) : CA G b (ss x 32 n) (cw w 5 0 v) (va_up M (b 1 0) (some (.inr (7, [.ref (b 2 0), .ref (b 3 0), .int (nI n), .int v])))) := by
  refine h.upd (s0 := 1) (k0 := 0) rfl (fun _ _ h => h) ?_ (cl_cases (P := fun s k => (s ≠ 1 ∨ k ≠ 0) → ce G b (ss x 32 n) (cw w 5 0 v) s k = ce G b x w s k) (fun h => rfl) (fun h => (h.elim (fun z => absurd rfl z) (fun z => absurd rfl z))) (fun h => rfl) (fun h => rfl) (fun k hk h => by simp [ce, ct_ss, cI_32, cw_get] <;> rfl) (fun k _ _ h => rfl) (fun k hk h => rfl) (fun k hk h => rfl) (fun k hk h => rfl) (fun k hk h => rfl) (fun k hk h => rfl) (fun k hk h => rfl))
  rfl
theorem CA.setKin (h : CA G b x w M)  (n : Nat) (v : Int32) : CA G b (cs x 30 n v) (w) (va_up M (b 2 0) (some (.inl (G.2.1 0, 1024, .inl (c_upd (cg x 30) n v))))) := by
  refine h.upd (s0 := 2) (k0 := 0) rfl (fun _ _ h => h) ?_ (cl_cases (P := fun s k => (s ≠ 2 ∨ k ≠ 0) → ce G b (cs x 30 n v) (w) s k = ce G b x w s k) (fun h => rfl) (fun h => rfl) (fun h => (h.elim (fun z => absurd rfl z) (fun z => absurd rfl z))) (fun h => rfl) (fun k hk h => rfl) (fun k _ _ h => rfl) (fun k hk h => rfl) (fun k hk h => rfl) (fun k hk h => rfl) (fun k hk h => rfl) (fun k hk h => rfl) (fun k hk h => rfl))
  rfl
theorem CA.setSea (h : CA G b x w M)  (n : Nat) (v : Int32) : CA G b (cs x 31 n v) (w) (va_up M (b 3 0) (some (.inl (G.2.1 0, 1024, .inl (c_upd (cg x 31) n v))))) := by
  refine h.upd (s0 := 3) (k0 := 0) rfl (fun _ _ h => h) ?_ (cl_cases (P := fun s k => (s ≠ 3 ∨ k ≠ 0) → ce G b (cs x 31 n v) (w) s k = ce G b x w s k) (fun h => rfl) (fun h => rfl) (fun h => rfl) (fun h => (h.elim (fun z => absurd rfl z) (fun z => absurd rfl z))) (fun k hk h => rfl) (fun k _ _ h => rfl) (fun k hk h => rfl) (fun k hk h => rfl) (fun k hk h => rfl) (fun k hk h => rfl) (fun k hk h => rfl) (fun k hk h => rfl))
  rfl
theorem CA.free (h : CA G b x w M) {c : Nat} (f : Nat → Int32) (hc : c = 1 ∨ c = 15 ∨ c = 27) : CA G b (cf x c f) w M := by
  rcases hc with rfl | rfl | rfl
  · exact h.eqv (fun _ _ h => h) (cl_cases (P := fun s k => ce G b (cf x 1 f) w s k = ce G b x w s k) (rfl) (rfl) (rfl) (rfl) (fun k hk => rfl) (fun k _ _ => rfl) (fun k hk => rfl) (fun k hk => rfl) (fun k hk => rfl) (fun k hk => rfl) (fun k hk => rfl) (fun k hk => rfl))
  · exact h.eqv (fun _ _ h => h) (cl_cases (P := fun s k => ce G b (cf x 15 f) w s k = ce G b x w s k) (rfl) (rfl) (rfl) (rfl) (fun k hk => rfl) (fun k _ _ => rfl) (fun k hk => rfl) (fun k hk => rfl) (fun k hk => rfl) (fun k hk => rfl) (fun k hk => rfl) (fun k hk => rfl))
  · exact h.eqv (fun _ _ h => h) (cl_cases (P := fun s k => ce G b (cf x 27 f) w s k = ce G b x w s k) (rfl) (rfl) (rfl) (rfl) (fun k hk => rfl) (fun k _ _ => rfl) (fun k hk => rfl) (fun k hk => rfl) (fun k hk => rfl) (fun k hk => rfl) (fun k hk => rfl) (fun k hk => rfl))
/-- a step in the record -/
theorem CA.write (h : CA G b x w M) {kd p m v : Int32} (hv : v = q_seal x kd p m) : CA G b (q_write x kd p m) (cw w 5 0 v) (va_up (va_up (va_up M (b 1 0) (some (.inr (7, [.ref (b 2 0), .ref (b 3 0), .int (nI (ct x 32 + 1)), .int v])))) (b 2 0) (some (.inl (G.2.1 0, 1024, .inl (c_upd (cg x 30) (ct x 32) kd))))) (b 3 0) (some (.inl (G.2.1 0, 1024, .inl (c_upd (cg x 31) (ct x 32) v))))) := by
  subst hv
  exact ((h.setCnt (ct x 32 + 1) (q_seal x kd p m)).setKin (ct x 32) kd).setSea (ct x 32) (q_seal x kd p m)
theorem q_last_write (x : s_T) (kd p m : Int32) : q_last (q_write x kd p m) = q_seal x kd p m := by
  unfold q_last q_write
  rw [ct_ss, if_pos rfl, if_neg (Nat.succ_ne_zero _), cg_ss, Nat.add_sub_cancel, cg_cs, if_pos rfl, if_pos rfl]
theorem q_last_sim {x y : s_T} (h1 : ct y 32 = ct x 32) (h2 : cg y 31 = cg x 31) : q_last y = q_last x := by
  unfold q_last
  rw [h1, h2]
theorem c_ok.col (h : c_ok T b x w) {c : Nat} (f : Nat → Int32) (hc : c ∉ [1, 14, 15, 25, 27, 31]) : c_ok T b (cf x c f) w := by
  obtain ⟨h1, h2, h3, h4, h5, h6⟩ := h
  have g : ∀ k, k ∈ [1, 14, 15, 25, 27, 31] → cg (cf x c f) k = cg x k := fun k hk => funext fun i => by rw [cg_cf, if_neg (fun z : k = c => hc (z ▸ hk))]
  refine ⟨?_, ?_, ?_, h4, ?_, ?_⟩
  · rw [g 1 (by decide)]; exact h1
  · rw [g 15 (by decide), g 14 (by decide)]; exact h2
  · rw [g 25 (by decide), g 27 (by decide)]; exact h3
  · rw [q_opn_congr (x := cf x c f) (y := x) (fun k _ => by rw [g 25 (by decide)])]; exact h5
  · rw [q_last_sim (y := cf x c f) (x := x) rfl (g 31 (by decide))]; exact h6
theorem c_ok.write (h : c_ok T b x w) (kd p m : Int32) : c_ok T b (q_write x kd p m) (cw w 5 0 (q_seal x kd p m)) := by
  obtain ⟨h1, h2, h3, h4, h5, h6⟩ := h
  have g : ∀ k, k ≠ 30 → k ≠ 31 → cg (q_write x kd p m) k = cg x k := fun k a c => funext fun i => by unfold q_write; rw [cg_ss, cg_cs, if_neg c, cg_cs, if_neg a]
  have gw : ∀ j k, j ≠ 5 → (cw w 5 0 (q_seal x kd p m)).1 j k = w.1 j k := fun j k hj => by rw [cw_get, if_neg hj]
  refine ⟨fun k hk t ht => ?_, fun k hk => ?_, fun k hk => ?_, fun i hi => ?_, ?_, ?_⟩
  · rw [gw 0 k (by decide), g 1 (by decide) (by decide)]; exact h1 k hk t ht
  · rw [gw 1 k (by decide), g 15 (by decide) (by decide), g 14 (by decide) (by decide)]; exact h2 k hk
  · rw [gw 2 k (by decide), g 25 (by decide) (by decide), g 27 (by decide) (by decide)]; exact h3 k hk
  · have e : ct (q_write x kd p m) (cI i) = ct x (cI i) := by
      unfold q_write
      rw [ct_ss, if_neg (by rcases (show i = 0 ∨ i = 1 ∨ i = 2 ∨ i = 3 ∨ i = 4 ∨ i = 5 by omega) with rfl | rfl | rfl | rfl | rfl | rfl <;> decide)]
      rfl
    rw [e]
    exact h4 i hi
  · rw [gw 4 0 (by decide), q_opn_write]; exact h5
  · rw [cw_get, if_pos rfl, if_pos rfl, q_last_write]
/-- what is the class's own changes at a place that the conditions don't speak of -/
theorem c_ok.own (h : c_ok T b x w) {j k : Nat} {v : Int32} (h1 : j = 0 → k < ct x 2 → ∀ t, t < 4 → c_bit v t = cg x 1 (4 * k + t)) (h2 : j = 1 → k < ct x 17 → cg x 15 k = c_lap T v (cg x 14 k)) (h3 : j = 2 → k < ct x 29 → cg x 25 k ≠ 0 → v = cg x 27 k) (h4 : j = 4 → k = 0 → v = nI (q_opn x (ct x 29))) (h5 : j ≠ 5) : c_ok T b x (cw w j k v) := by
  obtain ⟨o1, o2, o3, o4, o5, o6⟩ := h
  refine ⟨fun i hi t ht => ?_, fun i hi => ?_, fun i hi hz => ?_, o4, ?_, ?_⟩
  · rw [cw_get]
    split
    · next hj =>
      split
      · next hk => subst hk; exact h1 hj.symm hi t ht
      · exact o1 i hi t ht
    · exact o1 i hi t ht
  · rw [cw_get]
    split
    · next hj =>
      split
      · next hk => subst hk; exact h2 hj.symm hi
      · exact o2 i hi
    · exact o2 i hi
  · rw [cw_get]
    split
    · next hj =>
      split
      · next hk => subst hk; exact h3 hj.symm hi hz
      · exact o3 i hi hz
    · exact o3 i hi hz
  · rw [cw_get]
    split
    · next hj =>
      split
      · next hk => exact h4 hj.symm hk.symm
      · exact o5
    · exact o5
  · rw [cw_get, if_neg (fun z => h5 z.symm)]
    exact o6
/-- two people, two machines: the same where their numbers are -/
theorem CA.sameP (h : CA G b x w M) {v : Int32} {j : Nat} (hv : q_ref v (ct x 2)) (hj : j < ct x 2) (hb : ct x 2 < 2 ^ 31) : some (b 6 (pn v)) = some (b 6 j) ↔ v = nI j := by
  obtain ⟨u, hu, rfl⟩ := hv
  rw [pn_nI (by omega)]
  constructor
  · intro z
    rw [(h.2 6 u 6 j hu hj (Option.some.inj z)).2]
  · intro z
    rw [(nI_eq (by omega) (by omega)).mp z]
theorem CA.sameM (h : CA G b x w M) {v : Int32} {j : Nat} (hv : q_ref v (ct x 4)) (hj : j < ct x 4) (hb : ct x 4 < 2 ^ 31) : some (b 7 (pn v)) = some (b 7 j) ↔ v = nI j := by
  obtain ⟨u, hu, rfl⟩ := hv
  rw [pn_nI (by omega)]
  constructor
  · intro z
    rw [(h.2 7 u 7 j hu hj (Option.some.inj z)).2]
  · intro z
    rw [(nI_eq (by omega) (by omega)).mp z]
end CWt
theorem q_hold_t {x : s_T} {p m t : Int32} {k : Nat} (h : q_hold1 x p m t k = true) : ∀ {n : Nat}, k < n → q_hold x p m t n = true
  | 0, hk => absurd hk (Nat.not_lt_zero _)
  | n + 1, hk => by
    rw [q_hold]
    rcases Nat.lt_or_ge k n with z | z
    · rw [q_hold_t h z, Bool.true_or]
    · rw [show n = k by omega, h, Bool.or_true]
theorem q_endf_no {x : s_T} {p m : Int32} {k : Nat} (h : q_hold1 x p m (q_now x) k = false) : cf x 9 (q_endf x p m (k + 1)) = cf x 9 (q_endf x p m k) := by
  have e : q_endf x p m (k + 1) = q_endf x p m k := funext fun z => by
    unfold q_endf
    by_cases hz : z = k
    · subst hz
      rw [h]
      simp
    · by_cases h2 : z < k
      · simp [h2, show z < k + 1 by omega]
      · simp [h2, show ¬ z < k + 1 by omega]
  rw [e]
theorem q_endf_yes {x : s_T} {p m : Int32} {k : Nat} (h : q_hold1 x p m (q_now x) k = true) : q_endf x p m (k + 1) k = q_now x := by
  unfold q_endf
  rw [if_pos ⟨Nat.lt_succ_self _, h⟩]
theorem q_denyf_no {x : s_T} {p m : Int32} {k : Nat} (h : q_deny1 x p m k = false) : cf x 15 (q_denyf x p m (k + 1)) = cf x 15 (q_denyf x p m k) := by
  have e : q_denyf x p m (k + 1) = q_denyf x p m k := funext fun z => by
    unfold q_denyf
    by_cases hz : z = k
    · subst hz
      rw [h]
      simp
    · by_cases h2 : z < k
      · simp [h2, show z < k + 1 by omega]
      · simp [h2, show ¬ z < k + 1 by omega]
  rw [e]
theorem q_denyf_yes {x : s_T} {p m : Int32} {k : Nat} (h : q_deny1 x p m k = true) : q_denyf x p m (k + 1) k = 2 := by
  unfold q_denyf
  rw [if_pos ⟨Nat.lt_succ_self _, h⟩]
