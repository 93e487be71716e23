/-! more rows over maps: Object.<init>, an array's class object, System.arraycopy of references -/
section MR2
variable {p : Program} {l : Launch} {e : Env} {R : Room} {s : State} {m : MethodId} {args : Array Value} {below : List Frame} {meth : Method} {c : Code} {H : Heap} {locs : List Loc} {cells slots : Nat} {Q : State → Prop}
variable {cc : ByteArray} {pc maxL : Nat} {own : String} {ls : Array Slot} {rest : List Value} {A : Nat → Prop} {a : Nat} {G : mw_G} {M : mw_M}
theorem mr_obj (X : mw_B p l s m meth c cc maxL own G A) {idx : Nat} (hlk : Cond.methodLink own idx ({ cls := "java/lang/Object", name := "<init>", desc := "()V" } : Jvm.MethodName) ∈ lw_tbl) (hsize : ls.size = maxL) (hf : 1 ≤ R.frames) (hL : (rest.map fun v => v.category).sum + 12 ≤ R.locals) (hdg : decode cc pc = .ok (.invokespecial idx, 3))
    (kk : W p l e R s m args below meth c H locs cells slots Q (F0 m (pc + 3) ls rest)) : W p l e R s m args below meth c H locs cells slots Q (F0 m pc ls (.ref a :: rest)) :=
  W.objInit X.1 X.2.1 X.2.2.2.1 (mw_use X.2.2.2.2.1.1 hlk rfl) (mw_use X.2.2.2.2.1.1 kw39 rfl) (mw_use X.2.2.2.2.1.1 kw40 rfl) (g := F0 m pc ls (.ref a :: rest)) rfl (hsize.trans X.2.2.1.symm) rfl hdg hf (by show 2 * 0 + _ + 12 ≤ _; omega) kk
theorem mr_arr {k n : Nat} {x : (Nat → Int32) ⊕ (Nat → Int64) ⊕ (Nat → UInt32) ⊕ (Nat → UInt64) ⊕ (Nat → Option Nat)} (X : mw_B p l s m meth c cc maxL own G A) (hT : mw_T G A s M H locs) (he : M a = some (.inl (G.2.1 2, n, x))) : ∃ cell : Cell, H[a]? = some cell ∧ cell.vm.isStatics = false ∧ s.vm.findClass "[Ljava/lang/Object;" = some cell.cls := by
  have h1 : H[a]? = some (vp_cell (G.2.1 2) (n, x)) := hT.1 _ _ he
  obtain ⟨-, -, -, -, -, h4⟩ := (X.2.2.2.2.1.2.1.2 2 _ rfl).2
  refine ⟨_, h1, ?_, ?_⟩
  · rcases x with x | x | x | x | x <;> rfl
  · have e2 : (vp_cell (G.2.1 2) (n, x)).cls = G.2.1 2 := by rcases x with x | x | x | x | x <;> rfl
    rw [e2]
    exact h4
/-- getClass() of an array of objects: the class object that the tables know -/
theorem mr_getC (X : mw_B p l s m meth c cc maxL own G A) (hT : mw_T G A s M H locs) {index n : Nat} {x : (Nat → Int32) ⊕ (Nat → Int64) ⊕ (Nat → UInt32) ⊕ (Nat → UInt64) ⊕ (Nat → Option Nat)} (he : M a = some (.inl (G.2.1 2, n, x))) (hlk : Cond.methodLink own index ({ cls := "java/lang/Object", name := "getClass", desc := "()Ljava/lang/Class;" } : Jvm.MethodName) ∈ lw_tbl) {mi : Nat} (hmi : va_Mi "[Ljava/lang/Object;" mi s) (hsize : ls.size = maxL) (hf : 1 ≤ R.frames) (hL : (rest.map fun v => v.category).sum + 14 ≤ R.locals) (hdg : decode cc pc = .ok (.invokevirtual index, 3))
    (kk : W p l e R s m args below meth c H locs cells slots Q (F0 m (pc + 3) ls (.ref mi :: rest))) : W p l e R s m args below meth c H locs cells slots Q (F0 m pc ls (.ref a :: rest)) :=
  va_getC X.1 X.2.1 (X.2.2.1.trans hsize.symm) X.2.2.2.1 (mw_use X.2.2.2.2.1.1 hlk rfl) (mw_use X.2.2.2.2.1.1 kw748 rfl) (mw_use X.2.2.2.2.1.1 kw747 rfl) (mw_use X.2.2.2.2.1.1 kw263 rfl) (mw_use X.2.2.2.2.1.1 kw277 rfl) hmi (mr_arr (k := 0) X hT he) hf hL hdg kk
theorem mr_ldcM (X : mw_B p l s m meth c cc maxL own G A) {index : Nat} (hlk : Cond.classLink own index "[Ljava/lang/Object;" ∈ lw_tbl) {mi : Nat} (hmi : va_Mi "[Ljava/lang/Object;" mi s) (hdg : decode cc pc = .ok (.ldc index, 2))
    (kk : W p l e R s m args below meth c H locs cells slots Q (F0 m (pc + 2) ls (.ref mi :: rest))) : W p l e R s m args below meth c H locs cells slots Q (F0 m pc ls rest) :=
  va_ldcM X.1 X.2.1 X.2.2.2.1 (mw_use X.2.2.2.2.1.1 hlk rfl) hmi hdg kk
theorem mr_copyq (X : mw_B p l s m meth c cc maxL own G A) (hT : mw_T G A s M H []) {index : Nat} (hlk : Cond.methodLink own index arraycopyName ∈ lw_tbl) {a0 n0 n1 n : Nat} {f g : Nat → Option Nat} (he0 : M a0 = some (.inl (G.2.1 2, n0, .inr (.inr (.inr (.inr f)))))) (he1 : M a = some (.inl (G.2.1 2, n1, .inr (.inr (.inr (.inr g)))))) (hne : a0 ≠ a) (hn0 : n ≤ n0) (hn1 : n ≤ n1) (hn : n < 2 ^ 31)
    {ci : Nat} {C : String} {T : u_T} {N : Nat} (hc : vwCl[ci]? = some (C, T, N)) (hca : Cond.castable C "java/lang/Object" ∈ lw_tbl) (hel : ∀ j, j < n → ∃ (y : Nat) (fs : List Value), f j = some y ∧ M y = some (.inr (ci, fs)))
    (hsize : ls.size = maxL) (hf : 1 ≤ R.frames) (hL : (rest.map fun v => v.category).sum + (nativeFrameWords "java/lang/System" "arraycopy" 5 + 11) ≤ R.locals) (hdg : decode cc pc = .ok (.invokestatic index, 3))
    (kk : ∀ (H1 : Heap) (locs1 : List Loc), mw_T G A s (va_up M a (some (.inl (G.2.1 2, n1, .inr (.inr (.inr (.inr (va_cpy f g 0 0 n)))))))) H1 locs1 → W p l e R s m args below meth c H1 locs1 cells slots Q (F0 m (pc + 3) ls rest)) : W p l e R s m args below meth c H [] cells slots Q (F0 m pc ls (.int (nI n) :: .int 0 :: .ref a :: .int 0 :: .ref a0 :: rest)) := by
  have hW := X.2.2.2.2.1.1
  have en : (nI n).toNatClampNeg = n := nI_clamp hn
  have ez : (0 : Int32).toNatClampNeg = 0 := by decide
  have hP : va_P G.1 vwCl [(a0, .inl (G.2.1 2, n0, .inr (.inr (.inr (.inr f))))), (a, .inl (G.2.1 2, n1, .inr (.inr (.inr (.inr g)))))] H := fun j q hj => by
    have hz : j < 2 := (List.getElem?_eq_some_iff.mp hj).1
    rcases (show j = 0 ∨ j = 1 by omega) with rfl | rfl
    · cases hj; exact hT.1 _ _ he0
    · cases hj; exact hT.1 _ _ he1
  have hD : va_D (fun q => q = a ∨ q = a0) [(a0, .inl (G.2.1 2, n0, .inr (.inr (.inr (.inr f))))), (a, .inl (G.2.1 2, n1, .inr (.inr (.inr (.inr g)))))] := by
    refine ⟨fun i j q r hi hj h => ?_, fun k q hk => ?_⟩
    · have h1 : i < 2 := (List.getElem?_eq_some_iff.mp hi).1
      have h2 : j < 2 := (List.getElem?_eq_some_iff.mp hj).1
      rcases (show i = 0 ∨ i = 1 by omega) with rfl | rfl <;> rcases (show j = 0 ∨ j = 1 by omega) with rfl | rfl <;> cases hi <;> cases hj
      · rfl
      · exact absurd h hne
      · exact absurd h.symm hne
      · rfl
    · have h1 : k < 2 := (List.getElem?_eq_some_iff.mp hk).1
      rcases (show k = 0 ∨ k = 1 by omega) with rfl | rfl <;> cases hk
      · exact Or.inr rfl
      · exact Or.inl rfl
  refine va_copyq (H0 := H) (E0 := "java/lang/Object") (E1 := "java/lang/Object") (C := C) X.1 X.2.1 (X.2.2.1.trans hsize.symm) X.2.2.2.1 (mw_use hW hlk rfl) (mw_use hW kw289 rfl) (mw_use hW kw288 rfl) (mw_use hW kw15 rfl) X.2.2.2.2.1.2.1 hP hD va_S.rf 0 1 2 2 rfl rfl rfl rfl (by decide) (by decide) (nI_pos hn) (by rw [en, ez]; omega) (by rw [en, ez]; omega) (fun i hi y hy => ?_) (fun comp c0 h1 h2 => ?_) hf hL hdg (fun H1 locs1 hP1 hD1 hS1 => ?_)
  · rw [en] at hi
    rw [ez, Nat.zero_add] at hy
    obtain ⟨y', fs, e1, e2⟩ := hel i hi
    cases e1.symm.trans hy
    exact mr_cell X hT e2 hc
  · obtain ⟨c1, t1, f1, f2, f3⟩ := Cond.castable_spec (mw_use (A := args) hW hca rfl)
    cases h2.symm.trans f1
    cases h1.symm.trans f2
    exact f3
  · rw [en, ez] at hP1
    have h0 : va_at G.1 vwCl (a0, .inl (G.2.1 2, n0, .inr (.inr (.inr (.inr f))))) H1 := hP1 0 _ rfl
    have h1 : va_at G.1 vwCl (a, .inl (G.2.1 2, n1, .inr (.inr (.inr (.inr (va_cpy f g 0 0 n)))))) H1 := hP1 1 _ rfl
    have hAa : A a := hT.2.1 a (by rw [he1]; exact fun z => by cases z)
    have hA0 : A a0 := hT.2.1 a0 (by rw [he0]; exact fun z => by cases z)
    refine kk H1 locs1 ⟨fun b e1 hb => ?_, fun b hb => ?_, Nat.le_trans hT.2.2.1 hS1.1, fun q hq hn => ?_, fun q hq => ?_⟩
    · by_cases hba : b = a
      · subst hba
        rw [va_up_self] at hb
        cases hb
        exact h1
      · rw [va_up_ne _ _ hba] at hb
        by_cases hb0 : b = a0
        · subst hb0
          cases he0.symm.trans hb
          exact h0
        · have hv := hT.1 b e1 hb
          exact hv.kept (hS1.2.1 b hv.lt (fun z => z.elim hba hb0))
    · by_cases hba : b = a
      · rw [hba]; exact hAa
      · rw [va_up_ne _ _ hba] at hb
        exact hT.2.1 b hb
    · rw [hS1.2.1 q (Nat.lt_of_lt_of_le hq hT.2.2.1) (fun z => z.elim (fun z => hn (z ▸ hAa)) (fun z => hn (z ▸ hA0)))]
      exact hT.2.2.2.1 q hq hn
    · rcases hS1.2.2 q hq with z | z
      · rw [z]; exact hAa
      · rw [z]; exact hA0
/-- a reference out of an array of objects -/
theorem mr_aaldR (X : mw_B p l s m meth c cc maxL own G A) (hT : mw_T G A s M H locs) {n j q : Nat} {f : Nat → Option Nat} (he : M a = some (.inl (G.2.1 2, n, .inr (.inr (.inr (.inr f)))))) (hj : j < n) (hn : n < 2 ^ 31) (hf : f j = some q) (hdg : decode cc pc = .ok (.aaload, 1))
    (kk : W p l e R s m args below meth c H locs cells slots Q (F0 m (pc + 1) ls (.ref q :: rest))) : W p l e R s m args below meth c H locs cells slots Q (F0 m pc ls (.int (nI j) :: .ref a :: rest)) := by
  refine mr_aald X hT he (vp_in_nI hj hn) hdg ?_
  rw [nI_clamp (by omega), hf]
  exact kk
theorem mr_aastR (X : mw_B p l s m meth c cc maxL own G A) (hT : mw_T G A s M H locs) {n v ci j : Nat} {vs : List Value} {f : Nat → Option Nat} (he : M a = some (.inl (G.2.1 2, n, .inr (.inr (.inr (.inr f)))))) {C : String} {T : u_T} {N : Nat} (hc : vwCl[ci]? = some (C, T, N)) (hca : Cond.castable C "java/lang/Object" ∈ lw_tbl) (hv : M v = some (.inr (ci, vs))) (hj : j < n) (hn : n < 2 ^ 31) (hdg : decode cc pc = .ok (.aastore, 1))
    (kk : ∀ (H1 : Heap) (locs1 : List Loc), mw_T G A s (va_up M a (some (.inl (G.2.1 2, n, .inr (.inr (.inr (.inr (va_up f j (some v))))))))) H1 locs1 → W p l e R s m args below meth c H1 locs1 cells slots Q (F0 m (pc + 1) ls rest)) : W p l e R s m args below meth c H locs cells slots Q (F0 m pc ls (.ref v :: .int (nI j) :: .ref a :: rest)) := by
  refine mr_aast X hT he hc hca hv (vp_in_nI hj hn) hdg (fun H1 locs1 h => kk H1 locs1 ?_)
  rw [nI_clamp (by omega)] at h
  exact h
/-- a field of a reference's type in a place where another map says it -/
theorem mw_up2 {M : mw_M} {a b : Nat} {e f : Option va_E} (h : a ≠ b) : va_up (va_up M a e) b f = va_up (va_up M b f) a e := by
  funext q
  unfold va_up
  by_cases h1 : q = a
  · subst h1
    rw [if_neg h, if_pos rfl, if_pos rfl]
  · by_cases h2 : q = b
    · subst h2
      rw [if_pos rfl, if_neg h1, if_pos rfl]
    · rw [if_neg h2, if_neg h1, if_neg h1, if_neg h2]
end MR2
