/-- the written texts of the class -/
def mw_S : List (String × Nat × String) := [("AccessGate", 47, "team is out of range"), ("AccessGate", 58, "there are 12 people"), ("AccessGate", 74, "there are 8 machines"), ("AccessGate", 108, "minutes is out of range"), ("AccessGate", 136, "the person has approved it"), ("AccessGate", 171, "somebody has looked at the entry"), ("AccessGate", 177, "the person is of the team of the one who entered"), ("AccessGate", 188, "time is out of range"), ("AccessGate", 194, "no right of the person for the machine holds"), ("AccessGate", 203, "kind is out of range"), ("AccessGate", 213, "the session holds a line"), ("AccessGate", 226, "the session holds no line"), ("AccessGate", 232, "the person cannot let the line through"), ("AccessGate", 240, "the clock would be above 100000"), ("AccessGate", 257, "no such person"), ("AccessGate", 260, "no such machine"), ("AccessGate", 262, "no such ask"), ("AccessGate", 264, "no such entry"), ("AccessGate", 266, "no such session"), ("AccessGate", 268, "no such step"), ("AccessGate", 270, "label is out of range"), ("AccessGate", 272, "the object has been used for more than 512 calls"), ("AccessGate", 274, "the session is closed"), ("AccessGate", 280, "the person does not have the label of the machine"), ("AccessGate", 282, "the person has an overdue entry"), ("AccessGate", 284, "the ask does not wait"), ("AccessGate", 286, "the person cannot approve the ask")]

def mw_FL (own : String) (index ci k : Nat) : Prop := ∃ (C : String) (T : u_T) (N : Nat) (ref : String), vwCl[ci]? = some (C, T, N) ∧ k < N ∧ (∀ w ∈ u_ws C T N, w ∈ lw_tbl) ∧ (∀ (U : State) (A : Array Value), mw_W U → (Cond.fieldLink own index ref (T k).2.1 (T k).2.2.1).before A U = true ∨ ∃ host : String, (Cond.fieldLinkNest own index ref (T k).2.1 (T k).2.2.1 host).before A U = true) ∧ (∀ (U : State) (x : ClassId × Class × Nat × Field), mw_W U → U.fieldFound? (T k).1 (T k).2.1 (T k).2.2.1 = some x → U.fieldFound? ref (T k).2.1 (T k).2.2.1 = some x)
def mw_FP (own : String) (index ci k : Nat) (ty : FieldType) (fin : Bool) : Prop := ∃ (C : String) (T : u_T) (N : Nat) (ref : String) (ty0 : Nat → FieldType), vwCl[ci]? = some (C, T, N) ∧ k < N ∧ (∀ w ∈ u_ws C T N, w ∈ lw_tbl) ∧ (∀ (U : State) (A : Array Value), mw_W U → (Cond.fieldLink own index ref (T k).2.1 (T k).2.2.1).before A U = true ∨ (fin = false ∧ ∃ host : String, (Cond.fieldLinkNest own index ref (T k).2.1 (T k).2.2.1 host).before A U = true)) ∧ (∀ (U : State) (x : ClassId × Class × Nat × Field), mw_W U → U.fieldFound? (T k).1 (T k).2.1 (T k).2.2.1 = some x → U.fieldFound? ref (T k).2.1 (T k).2.2.1 = some x) ∧
  (∀ j, j < N → parseFieldDescriptor (T j).2.2.1 = some (ty0 j)) ∧ (∀ a, a < N → ∀ b, b < N → a ≠ b → (T a).2.1 ≠ (T b).2.1) ∧ parseFieldDescriptor (T k).2.2.1 = some ty ∧ (T k).2.2.2 = fin ∧ (fin = true → (T k).1 = own)
/-- what holds all through a method's body -/
def mw_B (p : Program) (l : Launch) (s : State) (m : MethodId) (meth : Method) (c : Code) (cc : ByteArray) (maxL : Nat) (own : String) (G : mw_G) (A : Nat → Prop) : Prop :=
  p.tables.exec = Jvm.exec ∧ c.code = cc ∧ c.maxLocals = maxL ∧ s.vm.findClass own = some m.cls ∧ mw_K mw_S G s ∧ mw_Z G A s s.heap ∧ (∀ q : Nat, s.heap.size ≤ q → A q) ∧ meth.locks = false ∧ l.stackTraces = false
theorem mw_tbl {s : State} {args : Array Value} (h : mw_W s) {ws : List Cond} (hin : ∀ w ∈ ws, w ∈ lw_tbl) (hg : ws.all mw_ok = true) : ∀ w ∈ ws, w.before args s = true := fun w hw => mw_use h (hin w hw) (List.all_eq_true.mp hg w hw)
section MR
variable {p : Program} {l : Launch} {e : Env} {R : Room} {s : State} {m : MethodId} {args : Array Value} {below : List Frame} {meth : Method} {c : Code} {H : Heap} {locs : List Loc} {cells slots : Nat} {Q : State → Prop}
variable {cc : ByteArray} {pc maxL : Nat} {own : String} {ls : Array Slot} {rest : List Value} {A : Nat → Prop} {a : Nat} {G : mw_G} {M : mw_M}
theorem u_ws_ok {C : String} {T : u_T} {N : Nat} : ∀ w ∈ u_ws C T N, mw_ok w = true := by
  intro w hw
  have h1 := hw
  unfold u_ws at h1
  simp only [List.mem_append, List.mem_map, List.mem_range, List.mem_cons, List.mem_singleton, List.not_mem_nil, or_false] at h1
  first
    | (rcases h1 with ⟨k, -, rfl⟩ | rfl <;> first | rfl | (unfold u_lay; split <;> rfl))
    | (rcases h1 with ⟨k, -, rfl⟩ <;> first | rfl | (unfold u_lay; split <;> rfl))
theorem mr_uws (X : mw_B p l s m meth c cc maxL own G A) {C : String} {T : u_T} {N : Nat} (hin : ∀ w ∈ u_ws C T N, w ∈ lw_tbl) : ∀ w ∈ u_ws C T N, w.before args s = true := fun w hw => mw_use X.2.2.2.2.1.1 (hin w hw) (u_ws_ok w hw)
/-- getfield -/
theorem mr_get (X : mw_B p l s m meth c cc maxL own G A) (hT : mw_T G A s M H locs) {index ci k : Nat} (hF : mw_FL own index ci k) {fs : List Value} (he : M a = some (.inr (ci, fs))) {v : Value} (hv : fs[k]? = some v) (hdg : decode cc pc = .ok (.getfield index, 3))
    (kk : W p l e R s m args below meth c H locs cells slots Q (F0 m (pc + 3) ls (v :: rest))) : W p l e R s m args below meth c H locs cells slots Q (F0 m pc ls (.ref a :: rest)) := by
  obtain ⟨C, T, N, ref, hc, hk, hin, hlink, hsame⟩ := hF
  have hW := X.2.2.2.2.1.1
  have hP : va_P G.1 vwCl [(a, .inr (ci, fs))] H := fun j q hj => by
    have hz : j < 1 := (List.getElem?_eq_some_iff.mp hj).1
    rw [show j = 0 by omega] at hj
    cases hj
    exact hT.1 _ _ he
  rcases hlink s args hW with hl | ⟨host, hl⟩
  · exact va_get (D := G.1) (ci := ci) (v := v) (C := C) (T := T) (N := N) X.1 X.2.1 (Ts := u_ws C T N) (mr_uws X hin) (fun _ h => h) X.2.2.2.1 X.2.2.2.2.1.2.1 hP 0 rfl hc k hk hl (fun x hx => hsame s x hW hx) hv hdg kk
  · exact va_getN (D := G.1) (ci := ci) (v := v) (C := C) (T := T) (N := N) X.1 X.2.1 (Ts := u_ws C T N) (mr_uws X hin) (fun _ h => h) X.2.2.2.1 X.2.2.2.2.1.2.1 hP 0 rfl hc k hk hl (fun x hx => hsame s x hW hx) hv hdg kk
/-- putfield -/
theorem mr_put (X : mw_B p l s m meth c cc maxL own G A) (hT : mw_T G A s M H locs) {index ci k : Nat} {ty : FieldType} {fin : Bool} (hF : mw_FP own index ci k ty fin) (hin2 : fin = true → meth.name = "<init>") {fs : List Value} (he : M a = some (.inr (ci, fs))) {v : Value} (hn : narrow ty v = v) (hfit : fits ty v = true) (hlen : k < fs.length) (hdg : decode cc pc = .ok (.putfield index, 3))
    (kk : ∀ (H1 : Heap) (locs1 : List Loc), mw_T G A s (va_up M a (some (.inr (ci, fs.set k v)))) H1 locs1 → W p l e R s m args below meth c H1 locs1 cells slots Q (F0 m (pc + 3) ls rest)) : W p l e R s m args below meth c H locs cells slots Q (F0 m pc ls (v :: .ref a :: rest)) := by
  obtain ⟨C, T, N, ref, ty0, hc, hk, hin, hlink, hsame, hty, hnm, hd, hfin, hdecl⟩ := hF
  have hW := X.2.2.2.2.1.1
  have hK := X.2.2.2.2.1.2.1
  have hts := mr_uws (args := args) X hin
  have hap := va_apart (own := own) hts (fun _ h => h) ty0 hty hnm hK hc
  obtain ⟨r, h1, cell, q1, q2, q3, q4⟩ := hT.1 _ _ he
  have hr : r = (C, T, N) := Option.some.inj (h1.symm.trans hc)
  subst hr
  obtain ⟨hS, hfc, kC, hkC, hkind⟩ := hK.1 ci _ hc
  obtain ⟨cf, kf, fi, f, hi, hsl⟩ := hS k hk
  have hlay := hts _ (u_in_lay hk)
  have hst := (u_facts hfc hkC (u_lays hts (fun _ h => h) hk) hi).1
  cases fin with
  | false =>
    unfold u_lay at hlay
    rw [if_neg (by rw [hfin]; decide)] at hlay
    have h6 := u_store hfc hkC hkind hlay hi hd hn hfit
    rcases hlink s args hW with hl | ⟨-, host, hl⟩
    · refine W.putK X.1 X.2.1 (f := f) ⟨X.2.2.2.1, hl, ⟨_, _, _, hsame s _ hW hi⟩, hst⟩ (by rw [q2]; exact h6) q1 q3 (by rw [hsl]; exact k2_hasslot (q4 k hk)) rfl rfl hdg fun H' e1 e2 e3 => ?_
      rw [hsl] at e1 ⊢
      exact kk H' _ (hT.set he ⟨_, hc, t_OB.to (V := updV (vp_V fs) k v) ⟨_, e1, q2, q3, t_set q4 hap hk v⟩ (fun j _ => vp_updV_set hlen v j)⟩ e2 e3)
    · refine va_WputK X.1 X.2.1 (f := f) X.2.2.2.1 hl (hsame s _ hW hi) hst (by rw [q2]; exact h6) q1 q3 (by rw [hsl]; exact k2_hasslot (q4 k hk)) rfl rfl hdg fun H' e1 e2 e3 => ?_
      rw [hsl] at e1 ⊢
      exact kk H' _ (hT.set he ⟨_, hc, t_OB.to (V := updV (vp_V fs) k v) ⟨_, e1, q2, q3, t_set q4 hap hk v⟩ (fun j _ => vp_updV_set hlen v j)⟩ e2 e3)
  | true =>
    unfold u_lay at hlay
    rw [if_pos hfin] at hlay
    have hcf : m.cls = cf := by
      obtain ⟨_, _, c', _, _, _, -, -, hf', -, -, -, hown2, -⟩ := Cond.laysFinal_spec hlay
      have e1 : c' = cf := by have := hi.symm.trans hf'; simp at this; exact this.1.symm
      rw [hdecl rfl] at hown2
      rw [← e1]; exact Option.some.inj (X.2.2.2.1.symm.trans hown2)
    have h6 := u_fits hfc hkC hkind (Or.inr hlay) hi hd hn hfit
    rcases hlink s args hW with hl | ⟨hno, -⟩
    · refine W.putFinK X.1 X.2.1 X.2.2.2.1 hl (hsame s _ hW hi) hst hcf (hin2 rfl) (by rw [q2]; exact h6) q1 q3 (by rw [hsl]; exact k2_hasslot (q4 k hk)) rfl rfl hdg fun H' e1 e2 e3 => ?_
      rw [hsl] at e1 ⊢
      exact kk H' _ (hT.set he ⟨_, hc, t_OB.to (V := updV (vp_V fs) k v) ⟨_, e1, q2, q3, t_set q4 hap hk v⟩ (fun j _ => vp_updV_set hlen v j)⟩ e2 e3)
    · cases hno
theorem mr_one (hT : mw_T G A s M H locs) {e0 : va_E} (he : M a = some e0) : va_P G.1 vwCl [(a, e0)] H := fun j q hj => by
  have hz : j < 1 := (List.getElem?_eq_some_iff.mp hj).1
  rw [show j = 0 by omega] at hj
  cases hj
  exact hT.1 _ _ he
/-- arrays of ints: a read, a write -/
theorem mr_iald (X : mw_B p l s m meth c cc maxL own G A) (hT : mw_T G A s M H locs) {n : Nat} {f : Nat → Int32} (he : M a = some (.inl (G.2.1 0, n, .inl f))) {i : Int32} (hin : vp_in i n) (hdg : decode cc pc = .ok (.iaload, 1))
    (kk : W p l e R s m args below meth c H locs cells slots Q (F0 m (pc + 1) ls (.int (f i.toNatClampNeg) :: rest))) : W p l e R s m args below meth c H locs cells slots Q (F0 m pc ls (.int i :: .ref a :: rest)) :=
  va_iald X.1 X.2.1 X.2.2.2.2.1.2.1 (mr_one hT he) 0 0 rfl rfl hin hdg kk
theorem mr_aald (X : mw_B p l s m meth c cc maxL own G A) (hT : mw_T G A s M H locs) {n : Nat} {f : Nat → Option Nat} (he : M a = some (.inl (G.2.1 2, n, .inr (.inr (.inr (.inr f)))))) {i : Int32} (hin : vp_in i n) (hdg : decode cc pc = .ok (.aaload, 1))
    (kk : W p l e R s m args below meth c H locs cells slots Q (F0 m (pc + 1) ls (va_rf (f i.toNatClampNeg) :: rest))) : W p l e R s m args below meth c H locs cells slots Q (F0 m pc ls (.int i :: .ref a :: rest)) :=
  va_aldq X.1 X.2.1 X.2.2.2.2.1.2.1 (mr_one hT he) 0 2 rfl rfl hin hdg kk
theorem mr_alen (X : mw_B p l s m meth c cc maxL own G A) (hT : mw_T G A s M H locs) {k n : Nat} {x : (Nat → Int32) ⊕ (Nat → Int64) ⊕ (Nat → UInt32) ⊕ (Nat → UInt64) ⊕ (Nat → Option Nat)} (he : M a = some (.inl (G.2.1 k, n, x))) (hk : k < 4) (hdg : decode cc pc = .ok (.arraylength, 1))
    (kk : W p l e R s m args below meth c H locs cells slots Q (F0 m (pc + 1) ls (.int (nI n) :: rest))) : W p l e R s m args below meth c H locs cells slots Q (F0 m pc ls (.ref a :: rest)) := by
  obtain ⟨ty, hty⟩ : ∃ ty : FieldType, (mw_tys G)[k]? = some (G.2.1 k, ty) := by
    rcases (show k = 0 ∨ k = 1 ∨ k = 2 ∨ k = 3 by omega) with rfl | rfl | rfl | rfl <;> exact ⟨_, rfl⟩
  exact va_alen X.1 X.2.1 X.2.2.2.2.1.2.1 (mr_one hT he) 0 k rfl hty rfl hdg kk
theorem mr_alen0 (X : mw_B p l s m meth c cc maxL own G A) (hT : mw_T G A s M H locs) (hdg : decode cc pc = .ok (.arraylength, 1))
    (kk : W p l e R s m args below meth c H locs cells slots Q (F0 m (pc + 1) ls (.int (nI 0) :: rest))) : W p l e R s m args below meth c H locs cells slots Q (F0 m pc ls (.ref G.2.2 :: rest)) :=
  va_tlen X.1 X.2.1 X.2.2.2.2.2.1.2.1 hT.2.2 (v := nI 0) rfl hdg kk
theorem mr_iast (X : mw_B p l s m meth c cc maxL own G A) (hT : mw_T G A s M H locs) {n : Nat} {f : Nat → Int32} (he : M a = some (.inl (G.2.1 0, n, .inl f))) {i : Int32} {x : Int32} (hin : vp_in i n) (hdg : decode cc pc = .ok (.iastore, 1))
    (kk : ∀ (H1 : Heap) (locs1 : List Loc), mw_T G A s (va_up M a (some (.inl (G.2.1 0, n, .inl (upd f i.toNatClampNeg x))))) H1 locs1 → W p l e R s m args below meth c H1 locs1 cells slots Q (F0 m (pc + 1) ls rest)) : W p l e R s m args below meth c H locs cells slots Q (F0 m pc ls (.int x :: .int i :: .ref a :: rest)) := by
  refine W.iast X.1 X.2.1 (hT.1 _ _ he) ((X.2.2.2.2.1.2.1.2 0 _ rfl).1 n (fun j => .int (f j))) (fun q => by cases q) (by show ¬ (i < 0 ∨ (arrV _ _ _).slots.size ≤ _); rw [arrV_size]; exact hin) rfl rfl hdg fun H1 e z oq => ?_
  refine kk H1 _ (hT.set he ?_ z oq)
  show H1[a]? = some (vp_cell _ _)
  rw [e]
  rw [vp_cell_i, vp_cell_i, arrV_store]
  congr 2
  funext q
  by_cases hq : q = i.toNatClampNeg
  · subst hq
    (first | (simp [updV, upd]; done) | (simp [updV, upd, vp_nar]; try rfl))
  · simp [updV, upd, hq]
/-- an object into an array of objects -/
theorem mr_aast (X : mw_B p l s m meth c cc maxL own G A) (hT : mw_T G A s M H locs) {n v ci : Nat} {vs : List Value} {f : Nat → Option Nat} (he : M a = some (.inl (G.2.1 2, n, .inr (.inr (.inr (.inr f)))))) {C : String} {T : u_T} {N : Nat} (hc : vwCl[ci]? = some (C, T, N)) (hca : Cond.castable C "java/lang/Object" ∈ lw_tbl) (hv : M v = some (.inr (ci, vs))) {i : Int32} (hin : vp_in i n) (hdg : decode cc pc = .ok (.aastore, 1))
    (kk : ∀ (H1 : Heap) (locs1 : List Loc), mw_T G A s (va_up M a (some (.inl (G.2.1 2, n, .inr (.inr (.inr (.inr (va_up f i.toNatClampNeg (some v))))))))) H1 locs1 → W p l e R s m args below meth c H1 locs1 cells slots Q (F0 m (pc + 1) ls rest)) : W p l e R s m args below meth c H locs cells slots Q (F0 m pc ls (.ref v :: .int i :: .ref a :: rest)) := by
  have hlt : i.toNatClampNeg < n := Nat.not_le.mp fun q => hin (Or.inr q)
  have h0 : ¬ i < 0 := fun q => hin (Or.inl q)
  have hK := X.2.2.2.2.1.2.1
  obtain ⟨r', hr', cellV, g1, g2, g3, -⟩ := hT.1 _ _ hv
  have hcls := (hK.1 ci _ hc).2
  obtain ⟨kA, comp, k1, k2, k3, -⟩ := (hK.2 2 _ rfl).2
  obtain ⟨kE, hkE, -⟩ := Vm.findClass_spec k3
  obtain ⟨c0, t1, f1, f2, f3⟩ := Cond.castable_spec (mw_use (A := args) X.2.2.2.2.1.1 hca rfl)
  cases hcls.1.symm.trans f1
  cases k3.symm.trans f2
  obtain ⟨kC, hkC, -⟩ := hcls.2
  refine W.aast X.1 X.2.1 (hT.1 _ _ he) (fun q h => by cases h) (fun h => by cases h) k1 k2 rfl hkE ⟨h0, by show _ < (arrV _ _ _).slots.size; rw [arrV_size]; exact hlt⟩ g1 (fun q h => by rw [g3] at h; cases h) (by rw [g2]; exact hkC) (by rw [g2]; exact f3) rfl rfl hdg fun H1 e z oq => ?_
  refine kk H1 _ (hT.set he ?_ z oq)
  show H1[a]? = some (vp_cell _ _)
  rw [e]
  rw [vp_cell_q, vp_cell_q, arrV_store]
  congr 2
  funext q
  by_cases hq : q = i.toNatClampNeg
  · subst hq
    simp [updV, va_up, va_rf]
  · simp [updV, va_up, hq]
/-- new objects and arrays -/
theorem mr_new (X : mw_B p l s m meth c cc maxL own G A) (hT : mw_T G A s M H locs) {C : String} {T : u_T} {N ci index : Nat} (hc : vwCl[ci]? = some (C, T, N)) (hin : ∀ w ∈ u_ws C T N, w ∈ lw_tbl) (ty : Nat → FieldType) (hty : ∀ k, k < N → parseFieldDescriptor (T k).2.2.1 = some (ty k)) (hcl : Cond.classLink own index C ∈ lw_tbl) (hinst : Cond.instantiable C N ∈ lw_tbl) (hini : Cond.initialized C ∈ lw_tbl)
    {fs : List Value} (hfs : ∀ j, j < N → defaultValue (ty j) = vp_V fs j) (hcells : cells + 1 ≤ R.cells) (hslots : slots + N ≤ R.slots) (hdg : decode cc pc = .ok (.new index, 3))
    (kk : ∀ (q : Nat) (H1 : Heap), M q = none → mw_T G A s (va_up M q (some (.inr (ci, fs)))) H1 locs → W p l e R s m args below meth c H1 locs (cells + 1) (slots + N) Q (F0 m (pc + 3) ls (.ref q :: rest))) : W p l e R s m args below meth c H locs cells slots Q (F0 m pc ls rest) := by
  have hW := X.2.2.2.2.1.1
  have hKn := X.2.2.2.2.1.2.1.1 ci _ hc
  refine W.newcK X.1 X.2.1 X.2.2.2.1 (mw_use hW hcl rfl) (mw_use hW hinst rfl) (mw_use hW hini rfl) rfl hdg hcells hslots hKn.2.1 rfl fun H1 kC hkC e1 z1 o1 => ?_
  obtain ⟨hn, hT1⟩ := hT.push (e := .inr (ci, fs)) X.2.2.2.2.2.2.1 ⟨_, hc, (u_born (args := args) ty (mr_uws X hin) (fun _ h => h) hKn hkC e1 hty).to hfs⟩ z1 o1
  exact kk H.size H1 hn hT1
theorem mr_newa (X : mw_B p l s m meth c cc maxL own G A) (hT : mw_T G A s M H locs) {atype : ArrayType} {k : Nat} (hk : (mw_tys G)[k]? = some (G.2.1 k, newarray.typeOf atype)) (harr : Cond.arrayClass (newarray.typeOf atype) ∈ lw_tbl)
    {n : Int32} {N : Nat} {x : (Nat → Int32) ⊕ (Nat → Int64) ⊕ (Nat → UInt32) ⊕ (Nat → UInt64) ⊕ (Nat → Option Nat)} (ha : ∀ cA : ClassId, vp_cell cA (N, x) = arrV cA N (fun _ => defaultValue (newarray.typeOf atype))) (hn : ¬ n < 0) (hN : n.toNatClampNeg = N) (hbytes : N * componentBytes (newarray.typeOf atype) ≤ 536870912) (hcells : cells + 1 ≤ R.cells) (hslots : slots + N ≤ R.slots) (hdg : decode cc pc = .ok (.newarray atype, 2))
    (kk : ∀ (q : Nat) (H1 : Heap), M q = none → mw_T G A s (va_up M q (some (.inl (G.2.1 k, N, x)))) H1 locs → W p l e R s m args below meth c H1 locs (cells + 1) (slots + N) Q (F0 m (pc + 2) ls (.ref q :: rest))) : W p l e R s m args below meth c H locs cells slots Q (F0 m pc ls (.int n :: rest)) := by
  have hW := X.2.2.2.2.1.1
  refine va_newaK X.1 X.2.1 (mw_use hW harr rfl) rfl hdg rfl hn hN hbytes hcells hslots rfl fun H1 cA e1 z1 o1 hAr hNm => ?_
  have hRA := (X.2.2.2.2.1.2.1.2 k _ hk).2
  have hcA : cA = G.2.1 k := by
    have h2 : s.vm.findClass ("[" ++ (newarray.typeOf atype).toString) = some (G.2.1 k) := by
      cases atype <;> exact hRA
    exact Option.some.inj (hNm.symm.trans h2)
  subst hcA
  obtain ⟨hn, hT1⟩ := hT.push (e := .inl (G.2.1 k, N, x)) X.2.2.2.2.2.2.1 (by show H1[H.size]? = some (vp_cell _ _); rw [ha]; exact e1) z1 o1
  exact kk H.size H1 hn hT1
theorem mr_newq (X : mw_B p l s m meth c cc maxL own G A) (hT : mw_T G A s M H locs) {index : Nat} (hcl : Cond.classLink own index "java/lang/Object" ∈ lw_tbl)
    {n : Int32} {N : Nat} (hn : ¬ n < 0) (hN : n.toNatClampNeg = N) (hbytes : N * 4 ≤ 536870912) (hcells : cells + 1 ≤ R.cells) (hslots : slots + N ≤ R.slots) (hdg : decode cc pc = .ok (.anewarray index, 3))
    (kk : ∀ (q : Nat) (H1 : Heap), M q = none → mw_T G A s (va_up M q (some (.inl (G.2.1 2, N, .inr (.inr (.inr (.inr (fun _ => none)))))))) H1 locs → W p l e R s m args below meth c H1 locs (cells + 1) (slots + N) Q (F0 m (pc + 3) ls (.ref q :: rest))) : W p l e R s m args below meth c H locs cells slots Q (F0 m pc ls (.int n :: rest)) := by
  have hW := X.2.2.2.2.1.1
  subst hN
  refine W.anew X.1 X.2.1 X.2.2.2.1 (mw_use hW hcl rfl) (va_AO.use X.2.2.2.2.1.2.2.1) rfl hdg rfl hn hbytes hcells hslots fun cA kA comp f1 f2 f3 f4 => ?_
  generalize hH1 : H.push ({ cls := cA, slots := Array.replicate n.toNatClampNeg .null, vm := .none } : Cell) = H1
  have z1 : H1.size = H.size + 1 := by rw [← hH1, Array.size_push]
  have e1 : H1[H.size]? = some (arrV cA n.toNatClampNeg (fun _ => .null)) := by rw [← hH1, Array.getElem?_push_size, ← arrV_new]
  have o1 : ∀ q : Nat, q < H.size → H1[q]? = H[q]? := fun q hq => by rw [← hH1, Array.getElem?_push, if_neg (Nat.ne_of_lt hq)]
  obtain ⟨-, -, -, -, -, h4⟩ := (X.2.2.2.2.1.2.1.2 2 _ rfl).2
  have hcA : cA = G.2.1 2 := Option.some.inj (f1.symm.trans h4)
  subst hcA
  obtain ⟨hn, hT1⟩ := hT.push (e := .inl (G.2.1 2, n.toNatClampNeg, .inr (.inr (.inr (.inr (fun _ => none)))))) X.2.2.2.2.2.2.1 (by show H1[H.size]? = some (vp_cell _ _); rw [vp_cell_q]; exact e1) z1 o1
  exact kk H.size H1 hn hT1
theorem mr_cell (X : mw_B p l s m meth c cc maxL own G A) (hT : mw_T G A s M H locs) {ci : Nat} {fs : List Value} (he : M a = some (.inr (ci, fs))) {C : String} {T : u_T} {N : Nat} (hc : vwCl[ci]? = some (C, T, N)) : ∃ cell : Cell, H[a]? = some cell ∧ cell.vm.isStatics = false ∧ s.vm.findClass C = some cell.cls :=
  va_recv X.2.2.2.2.1.2.1 (mr_one hT he) hc (q0 := 0) rfl
theorem mr_cast (X : mw_B p l s m meth c cc maxL own G A) (hT : mw_T G A s M H locs) {ci index : Nat} {fs : List Value} (he : M a = some (.inr (ci, fs))) {C : String} {T : u_T} {N : Nat} (hc : vwCl[ci]? = some (C, T, N)) (hl : Cond.classLink own index C ∈ lw_tbl) (hdg : decode cc pc = .ok (.checkcast index, 3))
    (kk : W p l e R s m args below meth c H locs cells slots Q (F0 m (pc + 3) ls (.ref a :: rest))) : W p l e R s m args below meth c H locs cells slots Q (F0 m pc ls (.ref a :: rest)) :=
  va_castS X.1 X.2.1 X.2.2.2.1 (mw_use X.2.2.2.2.1.1 hl rfl) (X.2.2.2.2.1.2.1.1 ci _ hc).2 (mr_cell X hT he hc) hdg kk
/-- the empty array's static -/
theorem mr_gets (X : mw_B p l s m meth c cc maxL own G A) (hT : mw_T G A s M H locs) {index : Nat} (hl : Cond.fieldLink own index "java/util/ArrayList" "DEFAULTCAPACITY_EMPTY_ELEMENTDATA" "[Ljava/lang/Object;" ∈ lw_tbl) (hdg : decode cc pc = .ok (.getstatic index, 3))
    (kk : W p l e R s m args below meth c H locs cells slots Q (F0 m (pc + 3) ls (.ref G.2.2 :: rest))) : W p l e R s m args below meth c H locs cells slots Q (F0 m pc ls rest) :=
  va_gets X.1 X.2.1 X.2.2.2.2.2.1.1 hT.2.2 X.2.2.2.1 (mw_use X.2.2.2.2.1.1 hl rfl) (fun _ h => h) hdg kk
end MR

