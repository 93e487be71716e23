/-! THE TWIN'S WORLD: one object, its numbers, its rows -/
def k_ar (k : Nat) : Option (Nat × Nat) := match k with
  | 0 => some (0, 12)
  | 1 => some (1, 48)
  | 2 => none
  | 3 => some (0, 8)
  | 4 => none
  | 5 => none
  | 10 => none
  | 17 => none
  | 21 => some (1, 2000)
  | 22 => none
  | 25 => some (1, 2000)
  | 29 => none
  | 30 => some (0, 8000)
  | 31 => some (0, 8000)
  | 32 => none
  | 33 => none
  | _ => some (0, 2000)
def mfl (ad : Nat → Nat) (x : s_T) (lst : Int32) : List Value := [.ref (ad 0), .ref (ad 1), .int (nI (ct x 2)), .ref (ad 3), .int (nI (ct x 4)), .int (nI (ct x 5)), .ref (ad 6), .ref (ad 7), .ref (ad 8), .ref (ad 9), .int (nI (ct x 10)), .ref (ad 11), .ref (ad 12), .ref (ad 13), .ref (ad 14), .ref (ad 15), .ref (ad 16), .int (nI (ct x 17)), .ref (ad 18), .ref (ad 19), .ref (ad 20), .ref (ad 21), .int (nI (ct x 22)), .ref (ad 23), .ref (ad 24), .ref (ad 25), .ref (ad 26), .ref (ad 27), .ref (ad 28), .int (nI (ct x 29)), .ref (ad 30), .ref (ad 31), .int (nI (ct x 32)), .int lst]
def MA (G : mw_G) (hm : Nat) (ad : Nat → Nat) (x : s_T) (lst : Int32) (M : mw_M) : Prop :=
  M hm = some (.inr (9, mfl ad x lst)) ∧ (∀ (k : Nat) (q : Nat × Nat), k_ar k = some q → k < 34 → M (ad k) = some (.inl (G.2.1 q.1, q.2, .inl (cg x k)))) ∧ (∀ (j k : Nat) (q r : Nat × Nat), k_ar j = some q → k_ar k = some r → j < 34 → k < 34 → ad j = ad k → j = k)
theorem MA.arr {G : mw_G} {hm : Nat} {ad : Nat → Nat} {x : s_T} {lst : Int32} {M : mw_M} (h : MA G hm ad x lst M) {k : Nat} {q : Nat × Nat} (hq : k_ar k = some q) (hk : k < 34) (j : Nat) (v : Int32) : MA G hm ad (cs x k j v) lst (va_up M (ad k) (some (.inl (G.2.1 q.1, q.2, .inl (upd (cg x k) j v))))) := by
  refine ⟨?_, fun i r hr hi => ?_, h.2.2⟩
  · rw [va_up_ne _ _ (mw_ne h.1 (h.2.1 k q hq hk) (fun z => by cases z))]
    exact h.1
  · by_cases hik : i = k
    · subst hik
      rw [va_up_self]
      cases hq.symm.trans hr
      have e : cg (cs x i j v) i = upd (cg x i) j v := by
        funext z
        rw [cg_cs, if_pos rfl]
        rfl
      rw [e]
    · rw [va_up_ne _ _ (fun z => hik (h.2.2 i k r q hr hq hi hk z)), h.2.1 i r hr hi]
      have e : cg (cs x k j v) i = cg x i := by
        funext z
        rw [cg_cs, if_neg hik]
      rw [e]
theorem MA.num {G : mw_G} {hm : Nat} {ad : Nat → Nat} {x : s_T} {lst : Int32} {M : mw_M} (h : MA G hm ad x lst M) {y : s_T} {lst' : Int32} {k : Nat} {v : Value} (hf : (mfl ad x lst).set k v = mfl ad y lst') (hy : ∀ k i, cg y k i = cg x k i) : MA G hm ad y lst' (va_up M hm (some (.inr (9, (mfl ad x lst).set k v)))) := by
  refine ⟨by rw [va_up_self, hf], fun i r hr hi => ?_, h.2.2⟩
  rw [va_up_ne _ _ (mw_ne (h.2.1 i r hr hi) h.1 (fun z => by cases z)), h.2.1 i r hr hi]
  rw [show cg y i = cg x i from funext fun z => hy i z]
def k_num (k : Nat) : Bool := [2, 4, 5, 10, 17, 22, 29, 32].contains k
theorem mfl_set {ad : Nat → Nat} {x : s_T} {lst : Int32} {k n : Nat} (hk : k_num k = true) : (mfl ad x lst).set k (.int (nI n)) = mfl ad (ss x k n) lst := by
  have h : k ∈ [2, 4, 5, 10, 17, 22, 29, 32] := by
    unfold k_num at hk
    exact List.contains_iff_mem.mp hk
  simp only [List.mem_cons, List.not_mem_nil, or_false] at h
  rcases h with rfl | rfl | rfl | rfl | rfl | rfl | rfl | rfl <;> rfl
section MM
variable {p : Program} {l : Launch} {e : Env} {R : Room} {s : State} {m : MethodId} {args : Array Value} {below : List Frame} {meth : Method} {c : Code} {H : Heap} {locs : List Loc} {cells slots : Nat} {Q : State → Prop}
variable {cc : ByteArray} {pc maxL : Nat} {own : String} {ls : Array Slot} {rest : List Value} {A : Nat → Prop} {G : mw_G} {M : mw_M} {hm : Nat} {ad : Nat → Nat} {x : s_T} {lst : Int32}
theorem mm_iald (X : mw_B p l s m meth c cc maxL own G A) (hT : mw_T G A s M H locs) (hM : MA G hm ad x lst M) {k N j : Nat} (hk : k_ar k = some (0, N)) (hk2 : k < 34) (hN : N < 2 ^ 31) (hj : j < N) (hdg : decode cc pc = .ok (.iaload, 1))
    (kk : W p l e R s m args below meth c H locs cells slots Q (F0 m (pc + 1) ls (.int (cg x k j) :: rest))) : W p l e R s m args below meth c H locs cells slots Q (F0 m pc ls (.int (nI j) :: .ref (ad k) :: rest)) := by
  refine mr_iald X hT (hM.2.1 k _ hk hk2) (vp_in_nI hj hN) hdg ?_
  rw [nI_clamp (by omega)]
  exact kk
theorem mm_zald (X : mw_B p l s m meth c cc maxL own G A) (hT : mw_T G A s M H locs) (hM : MA G hm ad x lst M) {k N j : Nat} (hk : k_ar k = some (1, N)) (hk2 : k < 34) (hN : N < 2 ^ 31) (hj : j < N) (hdg : decode cc pc = .ok (.baload, 1))
    (kk : W p l e R s m args below meth c H locs cells slots Q (F0 m (pc + 1) ls (.int (cg x k j) :: rest))) : W p l e R s m args below meth c H locs cells slots Q (F0 m pc ls (.int (nI j) :: .ref (ad k) :: rest)) := by
  refine mr_zald X hT (hM.2.1 k _ hk hk2) (vp_in_nI hj hN) hdg ?_
  rw [nI_clamp (by omega)]
  exact kk
theorem mm_iast (X : mw_B p l s m meth c cc maxL own G A) (hT : mw_T G A s M H locs) (hM : MA G hm ad x lst M) {k N j : Nat} (hk : k_ar k = some (0, N)) (hk2 : k < 34) (hN : N < 2 ^ 31) (hj : j < N) {v : Int32} (hdg : decode cc pc = .ok (.iastore, 1))
    (kk : ∀ (M1 : mw_M) (H1 : Heap) (locs1 : List Loc), MA G hm ad (cs x k j v) lst M1 → mw_T G A s M1 H1 locs1 → W p l e R s m args below meth c H1 locs1 cells slots Q (F0 m (pc + 1) ls rest)) : W p l e R s m args below meth c H locs cells slots Q (F0 m pc ls (.int v :: .int (nI j) :: .ref (ad k) :: rest)) := by
  refine mr_iast X hT (hM.2.1 k _ hk hk2) (vp_in_nI hj hN) hdg (fun H1 locs1 hT1 => ?_)
  rw [nI_clamp (by omega)] at hT1
  exact kk _ H1 locs1 (hM.arr hk hk2 j v) hT1
theorem mm_zast (X : mw_B p l s m meth c cc maxL own G A) (hT : mw_T G A s M H locs) (hM : MA G hm ad x lst M) {k N j : Nat} (hk : k_ar k = some (1, N)) (hk2 : k < 34) (hN : N < 2 ^ 31) (hj : j < N) {v : Int32} (hv : vp_nar .boolean v = v) (hdg : decode cc pc = .ok (.bastore, 1))
    (kk : ∀ (M1 : mw_M) (H1 : Heap) (locs1 : List Loc), MA G hm ad (cs x k j v) lst M1 → mw_T G A s M1 H1 locs1 → W p l e R s m args below meth c H1 locs1 cells slots Q (F0 m (pc + 1) ls rest)) : W p l e R s m args below meth c H locs cells slots Q (F0 m pc ls (.int v :: .int (nI j) :: .ref (ad k) :: rest)) := by
  refine mr_zast X hT (hM.2.1 k _ hk hk2) (vp_in_nI hj hN) hdg (fun H1 locs1 hT1 => ?_)
  rw [nI_clamp (by omega), hv] at hT1
  exact kk _ H1 locs1 (hM.arr hk hk2 j v) hT1
theorem mm_put (X : mw_B p l s m meth c cc maxL own G A) (hT : mw_T G A s M H locs) (hM : MA G hm ad x lst M) {index k : Nat} (hF : mw_FP own index 9 k .int false) (hk : k_num k = true) (n : Nat) {v : Int32} (hv : v = nI n) (hdg : decode cc pc = .ok (.putfield index, 3))
    (kk : ∀ (M1 : mw_M) (H1 : Heap) (locs1 : List Loc), MA G hm ad (ss x k n) lst M1 → mw_T G A s M1 H1 locs1 → W p l e R s m args below meth c H1 locs1 cells slots Q (F0 m (pc + 3) ls rest)) : W p l e R s m args below meth c H locs cells slots Q (F0 m pc ls (.int v :: .ref hm :: rest)) := by
  subst hv
  have hk3 : k < 34 := by
    obtain ⟨C, T, N, ref, ty0, hc, hk, -⟩ := hF
    cases hc
    exact hk
  exact mr_put X hT hF (fun h => nomatch h) hM.1 rfl rfl hk3 hdg (fun H1 locs1 hT1 => kk _ H1 locs1 (hM.num (mfl_set hk) (fun _ _ => rfl)) hT1)
theorem mm_putL (X : mw_B p l s m meth c cc maxL own G A) (hT : mw_T G A s M H locs) (hM : MA G hm ad x lst M) {index : Nat} (hF : mw_FP own index 9 33 .int false) {v : Int32} (hdg : decode cc pc = .ok (.putfield index, 3))
    (kk : ∀ (M1 : mw_M) (H1 : Heap) (locs1 : List Loc), MA G hm ad x v M1 → mw_T G A s M1 H1 locs1 → W p l e R s m args below meth c H1 locs1 cells slots Q (F0 m (pc + 3) ls rest)) : W p l e R s m args below meth c H locs cells slots Q (F0 m pc ls (.int v :: .ref hm :: rest)) :=
  mr_put X hT hF (fun h => nomatch h) hM.1 rfl rfl (by show 33 < 34; decide) hdg (fun H1 locs1 hT1 => kk _ H1 locs1 (hM.num rfl (fun _ _ => rfl)) hT1)
/-- another way to write a number on the stack -/
theorem mm_top {v w : Int32} (h : v = w) (kk : W p l e R s m args below meth c H locs cells slots Q (F0 m pc ls (.int w :: rest))) : W p l e R s m args below meth c H locs cells slots Q (F0 m pc ls (.int v :: rest)) := h ▸ kk
end MM
