/-! numbers and steps that the class's methods need -/
theorem c_ixn {v : Int32} {n : Nat} (h : v < 0) : q_ix v n = false := by
  unfold q_ix
  rw [decide_eq_false (show ¬ ¬ v < 0 from fun z => z h), Bool.false_and]
theorem c_ixo {j n : Nat} (hj : j < 2 ^ 31) (hn : n < 2 ^ 31) (h : ¬ nI j < nI n) : q_ix (nI j) n = false := by
  rw [q_ix_nI hj]
  exact decide_eq_false (fun z => h (nI_lt z hn))
theorem c_ixt {j n : Nat} (hj : j < n) (hn : n < 2 ^ 31) : q_ix (nI j) n = true := by
  rw [q_ix_nI (by omega)]
  exact decide_eq_true hj
theorem c_inn {v lo hi : Int32} (h : v < lo) : q_in v lo hi = false := by
  unfold q_in
  rw [decide_eq_false (Int32.not_le.mpr h), Bool.false_and]
theorem c_inh {v lo hi : Int32} (h : hi < v) : q_in v lo hi = false := by
  unfold q_in
  rw [decide_eq_false (show ¬ v ≤ hi from Int32.not_le.mpr h), Bool.and_false]
theorem c_int {v lo hi : Int32} (h1 : ¬ v < lo) (h2 : v ≤ hi) : q_in v lo hi = true := by
  unfold q_in
  rw [decide_eq_true (Int32.not_lt.mp h1), decide_eq_true h2]
  rfl
theorem c_lt4 {v : Int32} : v < 4 ↔ v ≤ 3 := by
  rw [Int32.lt_iff_toInt_lt, Int32.le_iff_toInt_le]
  have e4 : (4 : Int32).toInt = 4 := rfl
  have e3 : (3 : Int32).toInt = 3 := rfl
  omega
theorem c_pn {v : Int32} {n : Nat} (h : q_ref v n) (hn : n < 2 ^ 31) : pn v < n ∧ nI (pn v) = v := by
  obtain ⟨u, hu, rfl⟩ := h
  rw [pn_nI (by omega)]
  exact ⟨hu, rfl⟩
theorem c_neg1 {k : Nat} (h : k < 2 ^ 31) : ¬ nI k = -1 := fun z => by
  have h1 := congrArg Int32.toInt z
  rw [nI_toInt h] at h1
  have e : (-1 : Int32).toInt = -1 := rfl
  omega
theorem q_over_n (x : s_T) (p : Int32) : ∀ n : Nat, ∃ m : Nat, m ≤ n ∧ q_over x p n = nI m
  | 0 => ⟨0, Nat.le_refl _, rfl⟩
  | n + 1 => by
    obtain ⟨m, hm, e⟩ := q_over_n x p n
    rw [q_over, e]
    cases q_over1 x p n
    · exact ⟨m, by omega, by rw [show bI false = nI 0 from rfl, nI_add]; rfl⟩
    · exact ⟨m + 1, by omega, by rw [show bI true = nI 1 from rfl, nI_add]⟩
theorem q_over_le {x : s_T} {p : Int32} {n : Nat} (hn : n < 2 ^ 31) (h : q_over x p n ≤ 0) : q_over x p n = 0 := by
  obtain ⟨m, hm, e⟩ := q_over_n x p n
  rw [e] at h ⊢
  have h1 := (nI_leI (b := 0) (by omega) (by decide)).mp h
  rw [Nat.le_zero.mp h1]
  rfl
theorem q_over_gt {x : s_T} {p : Int32} {n : Nat} (h : ¬ q_over x p n ≤ 0) : ¬ q_over x p n = 0 := fun z => h (by rw [z]; decide)
/-- one label, told by a bit and by the twin's row -/
theorem c_has {T : Nat} {b : c_B} {x : s_T} {w : c_W} (ho : c_ok T b x w) {j m t : Nat} (hj : j < ct x 2) (ht : t < 4) (et : cg x 3 m = nI t) (hlb : ∀ k, cg x 1 k = 0 ∨ cg x 1 k = 1) (hj2 : j < 2 ^ 31) (hm2 : m < 2 ^ 31) : decide (c_bit (w.1 0 j) t = 1) = q_has x (nI j) (nI m) := by
  unfold q_has
  rw [pn_nI hj2, pn_nI hm2, et, pn_nI (by omega), ho.1 j hj t ht]
  rcases hlb (4 * j + t) with h | h <;> rw [h] <;> decide
section ST
variable {G : mw_G} {b : c_B} {x : s_T} {w : c_W} {M M1 : mw_M} {T : Nat}
theorem c_seal (ho : c_ok T b x w) {p m kd : Int32} {n1 n2 : Nat} (hp : q_ref p n1) (hm : q_ref m n2) (h1 : n1 < 2 ^ 31) (h2 : n2 < 2 ^ 31) : q_rem (31 * w.1 5 0 + kd + 10 * nI (pn p) + 200 * nI (pn m) + 2000 * nI (ct x 5)) 1000003 = q_seal x kd p m := by
  rw [(c_pn hp h1).2, (c_pn hm h2).2, ho.2.2.2.2.2]
  rfl
/-- behind a step -/
theorem CA.step (hA : CA G b x w M) (ho : c_ok T b x w) {kd p m S : Int32} (hS : S = q_seal x kd p m) (hq : M1 = va_up (va_up (va_up M (b 1 0) (some (.inr (7, [.ref (b 2 0), .ref (b 3 0), .int (nI (ct x 32 + 1)), .int S])))) (b 2 0) (some (.inl (G.2.1 0, 1024, .inl (c_upd (cg x 30) (ct x 32) kd))))) (b 3 0) (some (.inl (G.2.1 0, 1024, .inl (c_upd (cg x 31) (ct x 32) S))))) : CW G T b (q_write x kd p m) M1 := by
  subst hS
  subst hq
  exact ⟨_, hA.write rfl, ho.write kd p m⟩
theorem c_ok.deny (h : c_ok T b x w) (k : Nat) : c_ok T b (cs x 15 k 2) (cw w 1 k 2) := by
  obtain ⟨o1, o2, o3, o4, o5, o6⟩ := h
  have g : ∀ c, c ≠ 15 → cg (cs x 15 k 2) c = cg x c := fun c hc => funext fun i => by rw [cg_cs, if_neg hc]
  have gw : ∀ j i, j ≠ 1 → (cw w 1 k 2).1 j i = w.1 j i := fun j i hj => by rw [cw_get, if_neg hj]
  refine ⟨fun i hi t ht => ?_, fun i hi => ?_, fun i hi => ?_, o4, ?_, ?_⟩
  · rw [gw 0 i (by decide), g 1 (by decide)]; exact o1 i hi t ht
  · rw [cg_cs, if_pos rfl, cw_get, if_pos rfl, g 14 (by decide)]
    by_cases hk : i = k
    · rw [if_pos hk, if_pos hk]
      unfold c_lap
      rw [if_neg (fun z => absurd z.1 (by decide))]
    · rw [if_neg hk, if_neg hk]
      exact o2 i hi
  · rw [gw 2 i (by decide), g 25 (by decide), g 27 (by decide)]; exact o3 i hi
  · rw [gw 4 0 (by decide), q_opn_congr (x := cs x 15 k 2) (y := x) (fun k _ => by rw [g 25 (by decide)])]; exact o5
  · rw [gw 5 0 (by decide), q_last_sim (y := cs x 15 k 2) (x := x) rfl (g 31 (by decide))]; exact o6
theorem q_shut_o (x : s_T) (k : Nat) (hk : k < ct x 29) (h : cg x 25 k ≠ 0) : q_opn (cs (cs x 25 k 0) 27 k (-1)) (ct x 29) + 1 = q_opn x (ct x 29) :=
  q_opn_off h (fun j => by rw [cg_cs, if_neg (by decide), cg_cs, if_pos rfl]) hk
theorem c_ok.shut (h : c_ok T b x w) {k : Nat} : c_ok T b (cs (cs x 25 k 0) 27 k (-1)) (cw w 4 0 (nI (q_opn (cs (cs x 25 k 0) 27 k (-1)) (ct x 29)))) := by
  obtain ⟨o1, o2, o3, o4, o5, o6⟩ := h
  have g : ∀ c, c ≠ 25 → c ≠ 27 → cg (cs (cs x 25 k 0) 27 k (-1)) c = cg x c := fun c h1 h2 => funext fun i => by rw [cg_cs, if_neg h2, cg_cs, if_neg h1]
  have gw : ∀ (v : Int32) j i, j ≠ 4 → (cw w 4 0 v).1 j i = w.1 j i := fun v j i hj => by rw [cw_get, if_neg hj]
  refine ⟨fun i hi t ht => ?_, fun i hi => ?_, fun i hi hz => ?_, o4, ?_, ?_⟩
  · rw [gw _ 0 i (by decide), g 1 (by decide) (by decide)]; exact o1 i hi t ht
  · rw [gw _ 1 i (by decide), g 15 (by decide) (by decide), g 14 (by decide) (by decide)]; exact o2 i hi
  · rw [cg_cs, if_neg (by decide), cg_cs, if_pos rfl] at hz
    by_cases hk : i = k
    · rw [if_pos hk] at hz
      exact absurd rfl hz
    · rw [if_neg hk] at hz
      rw [gw _ 2 i (by decide), cg_cs, if_pos rfl, if_neg hk, cg_cs, if_neg (by decide)]
      exact o3 i hi hz
  · rw [cw_get, if_pos rfl, if_pos rfl]
    rfl
  · rw [gw _ 5 0 (by decide), q_last_sim (y := cs (cs x 25 k 0) 27 k (-1)) (x := x) rfl (g 31 (by decide) (by decide))]; exact o6
theorem CA.shut (hA : CA G b x w M) {k : Nat} (hk : k < ct x 29) : CA G b (cs (cs x 25 k 0) 27 k (-1)) w (va_up M (b 11 k) (some (.inr (6, [.ref (b 6 (pn (cg x 23 k))), .ref (b 7 (pn (cg x 24 k))), .int 1, .int (cg x 26 k), .int (w.1 2 k), .int (cg x 28 k)])))) :=
  (hA.setClosed hk 0).free (c := 27) _ (Or.inr (Or.inr rfl))
end ST
