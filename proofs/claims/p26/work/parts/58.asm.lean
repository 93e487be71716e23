/-! bits of an int (begun with rows of kit/laws/BITS) -/
def bt (x : Int32) (i : Nat) : Bool := x.toBitVec.getLsbD i
theorem b_ext {x y : Int32} (h : ∀ i, i < 32 → bt x i = bt y i) : x = y := Int32.toBitVec_inj.mp (BitVec.eq_of_getLsbD_eq (fun i hi => h i hi))
theorem b_or (x y : Int32) (i : Nat) : bt (x ||| y) i = (bt x i || bt y i) := by unfold bt; rw [Int32.toBitVec_or, BitVec.getLsbD_or]
theorem b_and (x y : Int32) (i : Nat) : bt (x &&& y) i = (bt x i && bt y i) := by unfold bt; rw [Int32.toBitVec_and, BitVec.getLsbD_and]
theorem b_xor (x y : Int32) (i : Nat) : bt (x ^^^ y) i = (bt x i ^^ bt y i) := by unfold bt; rw [Int32.toBitVec_xor, BitVec.getLsbD_xor]
theorem b_big {x : Int32} {i : Nat} (h : 32 ≤ i) : bt x i = false := BitVec.getLsbD_of_ge _ _ h
theorem b_m1 : ∀ i, i < 32 → bt (-1) i = true := by decide +kernel
theorem b_0 (i : Nat) : bt 0 i = false := BitVec.getLsbD_zero
theorem s_l : ∀ n, n < 32 → ((nI n &&& 31).toBitVec.smod 32).toNat = n := by decide +kernel
theorem s_u : ∀ n, n < 32 → (((nI n).toUInt32 &&& Int32.toUInt32 31).toBitVec % 32).toNat = n := by decide +kernel
theorem b_shl (n : Nat) (hn : n < 32) (x : Int32) {i : Nat} (hi : i < 32) : bt (x <<< (nI n &&& 31)) i = (decide (n ≤ i) && bt x (i - n)) := by
  unfold bt
  rw [Int32.toBitVec_shiftLeft]
  show (x.toBitVec <<< ((nI n &&& 31).toBitVec.smod 32).toNat).getLsbD i = _
  rw [s_l n hn, BitVec.getLsbD_shiftLeft]
  rcases Nat.lt_or_ge i n with h | h
  · simp [h, Nat.not_le.mpr h]
  · simp [hi, h, Nat.not_lt.mpr h]
theorem b_sshr (n : Nat) (hn : n < 32) (x : Int32) {i : Nat} (hi : i < 32) : bt (x >>> (nI n &&& 31)) i = if n + i < 32 then bt x (n + i) else bt x 31 := by
  unfold bt
  rw [Int32.toBitVec_shiftRight]
  show (x.toBitVec.sshiftRight ((nI n &&& 31).toBitVec.smod 32).toNat).getLsbD i = _
  rw [s_l n hn, BitVec.getLsbD_sshiftRight, BitVec.msb_eq_getLsbD_last]
  simp [hi]
theorem b_1 : ∀ i, i < 32 → bt 1 i = decide (i = 0) := by decide +kernel
theorem b_bI (h : Bool) (i : Nat) (hi : i < 32) : bt (bI h) i = (h && decide (i = 0)) := by
  cases h
  · exact b_0 i
  · exact (b_1 i hi).trans (Bool.true_and _).symm
theorem c_bit_eq {v : Int32} {t : Nat} (ht : t < 4) : c_bit v t = bI (bt v t) := by
  apply b_ext
  intro i hi
  unfold c_bit
  rw [b_and, b_sshr t (by omega) v hi, b_1 i hi, b_bI _ i hi]
  by_cases h : i = 0
  · subst h
    rw [if_pos (by omega)]
    rfl
  · rw [decide_eq_false h, Bool.and_false, Bool.and_false]
theorem c_bit_0 {t : Nat} (ht : t < 4) : c_bit 0 t = 0 := by
  rw [c_bit_eq ht, b_0]
  rfl
theorem c_keep_bt {v : Int32} {t u : Nat} {h : Bool} (ht : t < 4) (hu : u < 4) : bt (c_keep v t h) u = if u = t then h else bt v u := by
  have e1 : bt ((1 : Int32) <<< (nI t &&& 31)) u = decide (u = t) := by
    rw [b_shl t (by omega) 1 (by omega), b_1 (u - t) (by omega)]
    by_cases h1 : t ≤ u
    · rw [decide_eq_true h1, Bool.true_and]
      exact decide_eq_decide.mpr ⟨fun z => by omega, fun z => by omega⟩
    · rw [decide_eq_false h1, Bool.false_and, decide_eq_false (show ¬ u = t by omega)]
  unfold c_keep
  cases h with
  | true =>
    rw [if_pos rfl, b_or, e1]
    by_cases hq : u = t
    · rw [decide_eq_true hq, if_pos hq, Bool.or_true]
    · rw [decide_eq_false hq, if_neg hq, Bool.or_false]
  | false =>
    rw [if_neg (fun z => by cases z), b_and, b_xor, e1, b_m1 u (by omega)]
    by_cases hq : u = t
    · rw [decide_eq_true hq, if_pos hq]
      cases bt v u <;> rfl
    · rw [decide_eq_false hq, if_neg hq]
      cases bt v u <;> rfl
theorem c_keep_bit {v : Int32} {t u : Nat} {h : Bool} (ht : t < 4) (hu : u < 4) : c_bit (c_keep v t h) u = if u = t then bI h else c_bit v u := by
  rw [c_bit_eq hu, c_keep_bt ht hu]
  by_cases hq : u = t
  · rw [if_pos hq, if_pos hq]
  · rw [if_neg hq, if_neg hq, c_bit_eq hu]
/-! the conditions behind a call's parts -/
/-- who is not there yet has no label -/
def q_zl (x : s_T) : Prop := ∀ k, 4 * ct x 2 ≤ k → cg x 1 k = 0
/-- the class's world behind a call, at the same gate -/
def c_out (G : mw_G) (b : c_B) (x1 : s_T) (M1 : mw_M) : Prop := ∃ b1 : c_B, b1 0 0 = b 0 0 ∧ CW G (ct x1 5) b1 x1 M1
section CK
variable {G : mw_G} {b b1 : c_B} {x x1 : s_T} {w w1 : c_W} {M M1 : mw_M} {T n : Nat} {mc t : Int32}
theorem c_lap_0 {T : Nat} : c_lap T 0 (nI T) = 0 := by
  unfold c_lap
  rw [if_neg (fun z => by have h := z.2; rw [Int32.sub_self] at h; exact absurd h (by decide))]
theorem c_ok.add_P (ho : c_ok T b x w) (hz : q_zl x) (hw : w1.1 = (cw (cw w 3 0 mc) 0 (ct x 2) 0).1) (hls : c_ls b1 (ss (cs x 0 (ct x 2) t) 2 (ct x 2 + 1)) w1) : c_ok T b1 (ss (cs x 0 (ct x 2) t) 2 (ct x 2 + 1)) w1 := by
  obtain ⟨o1, o2, o3, o4, o5, o6⟩ := ho
  refine ⟨fun k hk u hu => ?_, fun k hk => ?_, fun k hk hq => ?_, hls, ?_, ?_⟩
  · have hk : k < ct x 2 + 1 := by simpa [ct_ss, ct_cs] using hk
    have e : cg (ss (cs x 0 (ct x 2) t) 2 (ct x 2 + 1)) 1 (4 * k + u) = cg x 1 (4 * k + u) := by simp [cg_ss, cg_cs]
    rw [e, hw, cw_get, if_pos rfl]
    by_cases hkn : k = ct x 2
    · rw [if_pos hkn, c_bit_0 hu, hz _ (by omega)]
    · rw [if_neg hkn]
      simp only [cw_get]
      exact o1 k (by omega) u hu
  · have hk : k < ct x 17 := by simpa [ct_ss, ct_cs] using hk
    have h := o2 k hk
    simpa [hw, cw_get, cg_ss, cg_cs] using h
  · have hk : k < ct x 29 := by simpa [ct_ss, ct_cs] using hk
    have hq : cg x 25 k ≠ 0 := by simpa [cg_ss, cg_cs] using hq
    have h := o3 k hk hq
    simpa [hw, cw_get, cg_ss, cg_cs] using h
  · rw [q_opn_congr (x := ss (cs x 0 (ct x 2) t) 2 (ct x 2 + 1)) (y := x) (fun k _ => by simp [cg_ss, cg_cs])]
    simpa [hw, cw_get, ct_ss, ct_cs] using o5
  · rw [q_last_sim (y := ss (cs x 0 (ct x 2) t) 2 (ct x 2 + 1)) (x := x) (by simp [ct_ss, ct_cs]) (by funext z; simp [cg_ss, cg_cs])]
    simpa [hw, cw_get] using o6
theorem c_ok.add_M  (ho : c_ok T b x w) (hw : w1.1 = (cw w 3 1 mc).1) (hls : c_ls b1 (ss (cs x 3 (ct x 4) t) 4 (ct x 4 + 1)) w1) : c_ok T b1 (ss (cs x 3 (ct x 4) t) 4 (ct x 4 + 1)) w1 := by
  obtain ⟨o1, o2, o3, o4, o5, o6⟩ := ho
  refine ⟨fun k hk u hu => ?_, fun k hk => ?_, fun k hk hq => ?_, hls, ?_, ?_⟩
  · have hk : k < ct x 2 := by simpa [ct_ss, ct_cs] using hk
    have h := o1 k hk u hu
    simpa [hw, cw_get, cg_ss, cg_cs] using h
  · have hk : k < ct x 17 := by simpa [ct_ss, ct_cs] using hk
    have h := o2 k hk
    simpa [hw, cw_get, cg_ss, cg_cs] using h
  · have hk : k < ct x 29 := by simpa [ct_ss, ct_cs] using hk
    have hq : cg x 25 k ≠ 0 := by simpa [cg_ss, cg_cs] using hq
    have h := o3 k hk hq
    simpa [hw, cw_get, cg_ss, cg_cs] using h
  · rw [q_opn_congr (x := ss (cs x 3 (ct x 4) t) 4 (ct x 4 + 1)) (y := x) (fun k _ => by simp [cg_ss, cg_cs])]
    simpa [hw, cw_get, ct_ss, ct_cs] using o5
  · rw [q_last_sim (y := ss (cs x 3 (ct x 4) t) 4 (ct x 4 + 1)) (x := x) (by simp [ct_ss, ct_cs]) (by funext z; simp [cg_ss, cg_cs])]
    simpa [hw, cw_get] using o6
theorem c_ok.add_A {j m : Nat} (ho : c_ok T b x w) (hT5 : T = ct x 5) (hw : w1.1 = (cw (cw w 3 2 mc) 1 (ct x 17) 0).1) (hls : c_ls b1 (ss (cs (cs (cs (cs (cs (cs x 11 (ct x 17) (nI j)) 12 (ct x 17) (nI m)) 13 (ct x 17) t) 14 (ct x 17) (q_now x)) 15 (ct x 17) 0) 16 (ct x 17) (-1)) 17 (ct x 17 + 1)) w1) : c_ok T b1 (ss (cs (cs (cs (cs (cs (cs x 11 (ct x 17) (nI j)) 12 (ct x 17) (nI m)) 13 (ct x 17) t) 14 (ct x 17) (q_now x)) 15 (ct x 17) 0) 16 (ct x 17) (-1)) 17 (ct x 17 + 1)) w1 := by
  obtain ⟨o1, o2, o3, o4, o5, o6⟩ := ho
  refine ⟨fun k hk u hu => ?_, fun k hk => ?_, fun k hk hq => ?_, hls, ?_, ?_⟩
  · have hk : k < ct x 2 := by simpa [ct_ss, ct_cs] using hk
    have h := o1 k hk u hu
    simpa [hw, cw_get, cg_ss, cg_cs] using h
  · have hk : k < ct x 17 + 1 := by simpa [ct_ss, ct_cs] using hk
    by_cases hkn : k = ct x 17
    · subst hT5
      simp [hw, cw_get, cg_ss, cg_cs, hkn]
      exact c_lap_0.symm
    · have h := o2 k (by omega)
      simpa [hw, cw_get, cg_ss, cg_cs, hkn] using h
  · have hk : k < ct x 29 := by simpa [ct_ss, ct_cs] using hk
    have hq : cg x 25 k ≠ 0 := by simpa [cg_ss, cg_cs] using hq
    have h := o3 k hk hq
    simpa [hw, cw_get, cg_ss, cg_cs] using h
  · rw [q_opn_congr (x := ss (cs (cs (cs (cs (cs (cs x 11 (ct x 17) (nI j)) 12 (ct x 17) (nI m)) 13 (ct x 17) t) 14 (ct x 17) (q_now x)) 15 (ct x 17) 0) 16 (ct x 17) (-1)) 17 (ct x 17 + 1)) (y := x) (fun k _ => by simp [cg_ss, cg_cs])]
    simpa [hw, cw_get, ct_ss, ct_cs] using o5
  · rw [q_last_sim (y := ss (cs (cs (cs (cs (cs (cs x 11 (ct x 17) (nI j)) 12 (ct x 17) (nI m)) 13 (ct x 17) t) 14 (ct x 17) (q_now x)) 15 (ct x 17) 0) 16 (ct x 17) (-1)) 17 (ct x 17 + 1)) (x := x) (by simp [ct_ss, ct_cs]) (by funext z; simp [cg_ss, cg_cs])]
    simpa [hw, cw_get] using o6
theorem c_ok.add_E {j m : Nat} (ho : c_ok T b x w) (hw : w1.1 = (cw w 3 3 mc).1) (hls : c_ls b1 (ss (cs (cs (cs x 18 (ct x 22) (nI j)) 19 (ct x 22) (nI m)) 20 (ct x 22) (q_now x)) 22 (ct x 22 + 1)) w1) : c_ok T b1 (ss (cs (cs (cs x 18 (ct x 22) (nI j)) 19 (ct x 22) (nI m)) 20 (ct x 22) (q_now x)) 22 (ct x 22 + 1)) w1 := by
  obtain ⟨o1, o2, o3, o4, o5, o6⟩ := ho
  refine ⟨fun k hk u hu => ?_, fun k hk => ?_, fun k hk hq => ?_, hls, ?_, ?_⟩
  · have hk : k < ct x 2 := by simpa [ct_ss, ct_cs] using hk
    have h := o1 k hk u hu
    simpa [hw, cw_get, cg_ss, cg_cs] using h
  · have hk : k < ct x 17 := by simpa [ct_ss, ct_cs] using hk
    have h := o2 k hk
    simpa [hw, cw_get, cg_ss, cg_cs] using h
  · have hk : k < ct x 29 := by simpa [ct_ss, ct_cs] using hk
    have hq : cg x 25 k ≠ 0 := by simpa [cg_ss, cg_cs] using hq
    have h := o3 k hk hq
    simpa [hw, cw_get, cg_ss, cg_cs] using h
  · rw [q_opn_congr (x := ss (cs (cs (cs x 18 (ct x 22) (nI j)) 19 (ct x 22) (nI m)) 20 (ct x 22) (q_now x)) 22 (ct x 22 + 1)) (y := x) (fun k _ => by simp [cg_ss, cg_cs])]
    simpa [hw, cw_get, ct_ss, ct_cs] using o5
  · rw [q_last_sim (y := ss (cs (cs (cs x 18 (ct x 22) (nI j)) 19 (ct x 22) (nI m)) 20 (ct x 22) (q_now x)) 22 (ct x 22 + 1)) (x := x) (by simp [ct_ss, ct_cs]) (by funext z; simp [cg_ss, cg_cs])]
    simpa [hw, cw_get] using o6
theorem c_ok.add_R {j m : Nat} (ho : c_ok T b x w) (hw : w1.1 = (cw w 3 4 mc).1) (hls : c_ls b1 (ss (cs (cs (cs (cs x 6 (ct x 10) (nI j)) 7 (ct x 10) (nI m)) 8 (ct x 10) (q_now x)) 9 (ct x 10) (q_now x + t)) 10 (ct x 10 + 1)) w1) : c_ok T b1 (ss (cs (cs (cs (cs x 6 (ct x 10) (nI j)) 7 (ct x 10) (nI m)) 8 (ct x 10) (q_now x)) 9 (ct x 10) (q_now x + t)) 10 (ct x 10 + 1)) w1 := by
  obtain ⟨o1, o2, o3, o4, o5, o6⟩ := ho
  refine ⟨fun k hk u hu => ?_, fun k hk => ?_, fun k hk hq => ?_, hls, ?_, ?_⟩
  · have hk : k < ct x 2 := by simpa [ct_ss, ct_cs] using hk
    have h := o1 k hk u hu
    simpa [hw, cw_get, cg_ss, cg_cs] using h
  · have hk : k < ct x 17 := by simpa [ct_ss, ct_cs] using hk
    have h := o2 k hk
    simpa [hw, cw_get, cg_ss, cg_cs] using h
  · have hk : k < ct x 29 := by simpa [ct_ss, ct_cs] using hk
    have hq : cg x 25 k ≠ 0 := by simpa [cg_ss, cg_cs] using hq
    have h := o3 k hk hq
    simpa [hw, cw_get, cg_ss, cg_cs] using h
  · rw [q_opn_congr (x := ss (cs (cs (cs (cs x 6 (ct x 10) (nI j)) 7 (ct x 10) (nI m)) 8 (ct x 10) (q_now x)) 9 (ct x 10) (q_now x + t)) 10 (ct x 10 + 1)) (y := x) (fun k _ => by simp [cg_ss, cg_cs])]
    simpa [hw, cw_get, ct_ss, ct_cs] using o5
  · rw [q_last_sim (y := ss (cs (cs (cs (cs x 6 (ct x 10) (nI j)) 7 (ct x 10) (nI m)) 8 (ct x 10) (q_now x)) 9 (ct x 10) (q_now x + t)) 10 (ct x 10 + 1)) (x := x) (by simp [ct_ss, ct_cs]) (by funext z; simp [cg_ss, cg_cs])]
    simpa [hw, cw_get] using o6
theorem c_ok.add_S {j m : Nat} (ho : c_ok T b x w) (hw : w1.1 = (cw (cw (cw w 3 5 mc) 2 (ct x 29) (-1)) 4 0 (w.1 4 0 + 1)).1) (hls : c_ls b1 (ss (cs (cs (cs (cs (cs x 23 (ct x 29) (nI j)) 24 (ct x 29) (nI m)) 25 (ct x 29) 1) 26 (ct x 29) (q_now x)) 27 (ct x 29) (-1)) 29 (ct x 29 + 1)) w1) : c_ok T b1 (ss (cs (cs (cs (cs (cs x 23 (ct x 29) (nI j)) 24 (ct x 29) (nI m)) 25 (ct x 29) 1) 26 (ct x 29) (q_now x)) 27 (ct x 29) (-1)) 29 (ct x 29 + 1)) w1 := by
  obtain ⟨o1, o2, o3, o4, o5, o6⟩ := ho
  refine ⟨fun k hk u hu => ?_, fun k hk => ?_, fun k hk hq => ?_, hls, ?_, ?_⟩
  · have hk : k < ct x 2 := by simpa [ct_ss, ct_cs] using hk
    have h := o1 k hk u hu
    simpa [hw, cw_get, cg_ss, cg_cs] using h
  · have hk : k < ct x 17 := by simpa [ct_ss, ct_cs] using hk
    have h := o2 k hk
    simpa [hw, cw_get, cg_ss, cg_cs] using h
  · have hk : k < ct x 29 + 1 := by simpa [ct_ss, ct_cs] using hk
    by_cases hkn : k = ct x 29
    · simp [hw, cw_get, cg_ss, cg_cs, hkn]
    · have hq : cg x 25 k ≠ 0 := by simpa [cg_ss, cg_cs, hkn] using hq
      have h := o3 k (by omega) hq
      simpa [hw, cw_get, cg_ss, cg_cs, hkn] using h
  · have e : ct (ss (cs (cs (cs (cs (cs x 23 (ct x 29) (nI j)) 24 (ct x 29) (nI m)) 25 (ct x 29) 1) 26 (ct x 29) (q_now x)) 27 (ct x 29) (-1)) 29 (ct x 29 + 1)) 29 = ct x 29 + 1 := by simp [ct_ss, ct_cs]
    rw [e, q_opn, q_opn_congr (x := ss (cs (cs (cs (cs (cs x 23 (ct x 29) (nI j)) 24 (ct x 29) (nI m)) 25 (ct x 29) 1) 26 (ct x 29) (q_now x)) 27 (ct x 29) (-1)) 29 (ct x 29 + 1)) (y := x) (n := ct x 29) (fun k hk => by simp [cg_ss, cg_cs, Nat.ne_of_lt hk]), hw, cw_get, if_pos rfl, if_pos rfl, o5]
    rw [show cg (ss (cs (cs (cs (cs (cs x 23 (ct x 29) (nI j)) 24 (ct x 29) (nI m)) 25 (ct x 29) 1) 26 (ct x 29) (q_now x)) 27 (ct x 29) (-1)) 29 (ct x 29 + 1)) 25 (ct x 29) = 1 by simp [cg_ss, cg_cs], if_neg (by decide)]
    exact nI_1 _
  · rw [q_last_sim (y := ss (cs (cs (cs (cs (cs x 23 (ct x 29) (nI j)) 24 (ct x 29) (nI m)) 25 (ct x 29) 1) 26 (ct x 29) (q_now x)) 27 (ct x 29) (-1)) 29 (ct x 29 + 1)) (x := x) (by simp [ct_ss, ct_cs]) (by funext z; simp [cg_ss, cg_cs])]
    simpa [hw, cw_get] using o6
theorem c_ok.lab (ho : c_ok T b x w) {j t : Nat} {h : Bool} (hj : j < ct x 2) (ht : t < 4) : c_ok T b (cs x 1 (4 * j + t) (bI h)) (cw w 0 j (c_keep (w.1 0 j) t h)) := by
  obtain ⟨o1, o2, o3, o4, o5, o6⟩ := ho
  refine ⟨fun k hk u hu => ?_, fun k hk => ?_, fun k hk hq => ?_, o4, ?_, ?_⟩
  · have hk : k < ct x 2 := hk
    rw [cw_get, if_pos rfl, cg_cs, if_pos rfl]
    by_cases hkj : k = j
    · subst hkj
      rw [if_pos rfl, c_keep_bit ht hu]
      by_cases hut : u = t
      · rw [if_pos hut, if_pos (by omega)]
      · rw [if_neg hut, if_neg (by omega)]
        exact o1 k hk u hu
    · rw [if_neg hkj, if_neg (by omega)]
      exact o1 k hk u hu
  · have h := o2 k hk
    simpa [cw_get, cg_cs] using h
  · have hq : cg x 25 k ≠ 0 := by simpa [cg_cs] using hq
    have h := o3 k hk hq
    simpa [cw_get, cg_cs] using h
  · rw [q_opn_congr (x := cs x 1 (4 * j + t) (bI h)) (y := x) (fun k _ => by simp [cg_cs])]
    simpa [cw_get, ct_cs] using o5
  · rw [q_last_sim (y := cs x 1 (4 * j + t) (bI h)) (x := x) rfl (by funext z; simp [cg_cs])]
    simpa [cw_get] using o6
theorem c_ok.ls (ho : c_ok T b x w) : c_ls b x w := ho.2.2.2.1
/-- add(..) at the list i, of a new object -/
theorem c_add {l : Launch} (hfl : l.stackTraces = false) (hA : CA G b x w M) (ho : c_ls b x w) {i q ci : Nat} (hi : i < 6) (hq : M q = none) {vs : List Value} {C : String} {Tf : u_T} {N : Nat} (hc : vwCl[ci]? = some (C, Tf, N)) (hca : Cond.castable C "java/lang/Object" ∈ lw_tbl) (hci : ci ≠ 0) (hel : ∀ k, k < ct x (cI i) → ∃ fs : List Value, M (b (6 + i) k) = some (.inr (ci, fs))) (h5 : ct x (cI i) ≤ 533) :
    mw_Met l G yJx4a65c_add_9ea2d (.code yJx4a65c_add_9ea2d cJx4a65c_add_9ea2d 2 (some .boolean)) rm_Jx4a65c_add_9ea2d [.ref (b 4 i), .ref q] (va_up M q (some (.inr (ci, vs)))) (mw_pi (fun r M1 => j_added G (va_up M q (some (.inr (ci, vs)))) (b 4 i) (if w.2.1 i = 0 then G.2.2 else b 5 i) q (ct x (cI i)) (w.2.1 i) (w.2.2 i) (w.1 3 i + 1) M1)) := by
  have hA' : CA G b x w (va_up M q (some (.inr (ci, vs)))) := hA.off hq
  obtain ⟨o1, o2, o3, o4⟩ := ho i hi
  refine j_add hfl (Ne.symm (mw_old (hA.1 4 i hi) hq)) (hA'.1 4 i hi) ?_ o2 h5 (fun k hk => ?_) (va_up_self _ _ _) hc hca hci
  · by_cases hz : w.2.1 i = 0
    · exact Or.inl ⟨if_pos hz, by omega, hz⟩
    · refine Or.inr ⟨o3 hz, o1, ?_⟩
      rw [if_neg hz]
      exact hA'.1 5 i ⟨hi, hz⟩
  · obtain ⟨fs, hf⟩ := hel k hk
    exact ⟨b (6 + i) k, fs, o4 k hk, (va_up_ne _ _ (mw_old hf hq)).trans hf⟩
end CK
