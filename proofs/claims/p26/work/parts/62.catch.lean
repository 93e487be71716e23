/-! the law's own small methods: a call, its answer into a row, its exception into a code -/
def mw_np : List (String × String) := [("java/lang/IllegalArgumentException", "java/lang/IndexOutOfBoundsException"), ("java/lang/IllegalStateException", "java/lang/IndexOutOfBoundsException"), ("java/lang/IllegalStateException", "java/lang/IllegalArgumentException")]
def mw_N (U : State) : Prop := ∀ q ∈ mw_np, va_Nc q.1 q.2 U
theorem mw_N.warm {s U : State} (hW : s.WarmedH U.vm) (h : mw_N s) : mw_N U := fun q hq => va_Nc.moved hW.alike (h q hq)
def mw_PreN (G : mw_G) (av : List Value) (M : mw_M) (sz : Nat) : Array Value → State → Prop := fun a U => mw_Pre G av M sz a U ∧ mw_N U
theorem mw_PreN.blind {G : mw_G} {av : List Value} {M : mw_M} {sz : Nat} : FrameBlind (mw_PreN G av M sz) := by
  intro a U g mk ⟨h1, h2⟩
  exact ⟨mw_Pre.blind a U g mk h1, mw_N.warm (s := U) (State.WarmedH.refl U) h2⟩
/-- a method that catches what its callee throws -/
def mw_MetN (l : Launch) (G : mw_G) (y : MethodName) (w : Cond) (rm : Room) (av : List Value) (M : mw_M) (post : Option Value → mw_M → Prop) : Prop := ∀ sz : Nat, vx_Met l y [w] rm (mw_PreN G av M sz) (mw_Qr G M sz post) (mw_Xr G M sz (fun _ => False)) rm.cells rm.slots (mw_A M sz)
theorem mw_ofN {l : Launch} {G : mw_G} {y : MethodName} {cc : ByteArray} {maxL : Nat} {ret : Option FieldType} {hh : List (Nat × Nat × Nat × Nat)} {rm : Room} {av : List Value} {M : mw_M} {post : Option Value → mw_M → Prop} (hfl : l.stackTraces = false) (hy : plainName y.cls = true) (hlen : (lg_sl av).length ≤ maxL)
    (body : ∀ (p : Program) (e : Env) (s : State) (m : MethodId) (below : List Frame) (meth : Method) (c : Code) (ls : Array Slot), mw_B p l s m meth c cc maxL y.cls G (mw_A M s.heap.size) → meth.name = y.name → meth.sig.returnType = ret → c.exceptionTable.toList = tableOf hh → mw_N s → mw_T G (mw_A M s.heap.size) s M s.heap [] → lv_has ls maxL (lv_args 0 av) →
      W p l e rm s m av.toArray below meth c s.heap [] 0 0 (mw_EX below G M rm post (fun _ => False) av.toArray s) (F0 m 0 ls [])) : mw_MetN l G y (.codeWith y cc maxL ret hh) rm av M post := by
  intro sz
  refine vx_ofWH (cc := cc) (maxL := maxL) (ret := ret) (hh := hh) hy rfl ?_
  intro p e s m args below meth c s₁ B hml hv
  have hsz : s.heap.size = sz := hv.1.2.1
  subst hsz
  have htab := vx_table (x := y) B (atoms_spec (ws := [Cond.codeWith y cc maxL ret hh]) B.pre _ List.mem_cons_self)
  obtain ⟨rfl, X, h1, h2, hT⟩ := mw_body hfl B hml hv.1
  have hl := lv_entry av (n := maxL) hlen
  rw [lg_entry_eq]
  exact body p e s m below meth c _ X h1 h2 htab hv.2 hT hl
section MN
variable {p : Program} {l : Launch} {e : Env} {R : Room} {s : State} {m : MethodId} {args : Array Value} {below : List Frame} {meth : Method} {c : Code} {H : Heap} {locs : List Loc} {cells slots : Nat} {Q : State → Prop}
variable {cc : ByteArray} {pc maxL : Nat} {own : String} {ls : Array Slot} {rest st0 : List Value} {A : Nat → Prop} {G : mw_G} {M Mc Mr : mw_M}
variable {y : MethodName} {bytes : ByteArray} {maxL2 index n : Nat} {ret : Option FieldType} {rm : Room} {post : Option Value → mw_M → Prop} {px : String → Prop} {av : List Value}
variable {b : Nat} {As : List Value} {C : String}
theorem mr_runSN {hh : List (Nat × Nat × Nat × Nat)} (X : mw_B p l s m meth c cc maxL own G A) (hN : mw_N s) (hT : mw_T G A s (mw_or Mc Mr) H locs) (cb : mw_CB own index y n) (hi : Cond.static y ∈ lw_tbl) (hcode : Cond.codeWith y bytes maxL2 ret hh ∈ lw_tbl) (hM : mw_MetN l G y (.codeWith y bytes maxL2 ret hh) rm As Mc post) (hst : st0 = As.reverse ++ rest) (hn : As.length = n) (hsize : ls.size = maxL) (hR : rm.frames + 1 ≤ R.frames ∧ 8 + (maxL2 + 11) + rm.locals ≤ R.locals) (hW : (rest.map fun v => v.category).sum ≤ 8) (hdg : decode cc pc = .ok (.invokestatic index, 3)) (hf : cells + rm.cells ≤ R.cells ∧ slots + rm.slots ≤ R.slots) :
    mw_RunX p l e R s m args below meth c G Mc H locs cells slots rm (F0 m pc ls st0) rest post (fun _ => False) := by
  have hW2 := X.2.2.2.2.1.1
  have hc : (Cond.codeWith y bytes maxL2 ret hh).before args s = true := mw_use hW2 hcode rfl
  refine ⟨_, vx_runSX (As := As) (Ts := []) (hh := hh) ⟨X.1, X.2.1, X.2.2.1, X.2.2.2.1, fun _ h => nomatch h⟩ (hM H.size) ⟨⟨rfl, rfl, hR.1, hR.2, fun w hw a' U hU => ?_, List.mem_cons_self⟩, hc, mw_use hW2 cb.1 rfl, cb.2.1, fun sig h => ?_, mw_use hW2 cb.2.2.2 rfl, mw_use hW2 hi rfl⟩ ⟨mw_PreN.blind, fun U hU hWU => ⟨mr_pre (av := As) X hT U hU hWU, hN.warm hWU⟩⟩ rfl hn hsize hst (lv_room hW) hdg hf⟩
  · rcases List.mem_singleton.mp hw with rfl
    exact word_at hU (Or.inl rfl) hc
  · have h2 := cb.2.2.1
    rw [h] at h2
    exact (Option.some.inj h2).symm
/-- caught by a row of this method's table -/
theorem mr_catch (X : mw_B p l s m meth c cc maxL own G A) (hN : mw_N s) {pre suf : List (Nat × Nat × Nat × Nat)} {x : Nat × Nat × Nat × Nat} (htab : c.exceptionTable.toList = tableOf (pre ++ x :: suf)) {E name : String}
    (hpass : ∀ z ∈ pre, z.2.2.2 ≠ 0 ∧ ∃ nm : String, Cond.classLink own z.2.2.2 nm ∈ lw_tbl ∧ (E, nm) ∈ mw_np) (hx : covers (⟨x.1, x.2.1, x.2.2.1, x.2.2.2⟩ : ExceptionTableEntry) pc = true) (h0 : x.2.2.2 ≠ 0) (hlk : Cond.classLink own x.2.2.2 name ∈ lw_tbl) (hca : Cond.castable E name ∈ lw_tbl)
    {ce9 : Cell} {q : Addr} (hcell : H[q]? = some ce9) (hv : ce9.vm = .none) (hcl : s.vm.findClass E = some ce9.cls) (kk : W p l e R s m args below meth c H locs cells slots Q (F0 m x.2.2.1 ls [.ref q])) : vx_W p l e R s m args below meth c H locs cells slots Q (F0 m pc ls rest) q := by
  have hW := X.2.2.2.2.1.1
  refine vx_catch (own := own) (name := name) X.2.2.2.1 (tableOf pre) ⟨x.1, x.2.1, x.2.2.1, x.2.2.2⟩ (tableOf suf) ?_ (fun z hz => ?_) hx h0 (mw_use hW hlk rfl) (mw_use hW hca rfl) hcell hv hcl kk
  · rw [htab]
    unfold tableOf
    rw [List.map_append, List.map_cons]
  · unfold tableOf at hz
    obtain ⟨u, hu, rfl⟩ := List.mem_map.mp hz
    obtain ⟨h1, nm, h2, h3⟩ := hpass u hu
    exact Or.inr ⟨h1, nm, mw_use hW h2 rfl, hN _ h3⟩
/-! the row for the answers beside another map -/
def mo (G : mw_G) (o : Nat) (f : Nat → Int64) : mw_M := va_up mw_nil o (some (.inl (G.2.1 3, 1, .inr (.inl f))))
theorem mo_self {o : Nat} {f : Nat → Int64} : mo G o f o = some (.inl (G.2.1 3, 1, .inr (.inl f))) := va_up_self _ _ _
theorem mo_ne {o a : Nat} {f : Nat → Int64} (h : a ≠ o) : mo G o f a = none := va_up_ne _ _ h
theorem mo_off {o : Nat} {f : Nat → Int64} (h : mw_ds Mc (mo G o f)) : Mc o = none := by
  cases hq : Mc o with
  | none => rfl
  | some e9 =>
    have := h o (by rw [hq]; exact fun z => by cases z)
    rw [mo_self] at this
    cases this
theorem mo_at {o : Nat} {f : Nat → Int64} (h : mw_ds Mc (mo G o f)) : mw_or Mc (mo G o f) o = some (.inl (G.2.1 3, 1, .inr (.inl f))) := by
  unfold mw_or
  rw [mo_off h, mo_self]
  rfl
theorem mo_set {o : Nat} {f g : Nat → Int64} (h : mw_ds Mc (mo G o f)) : va_up (mw_or Mc (mo G o f)) o (some (.inl (G.2.1 3, 1, .inr (.inl g)))) = mw_or Mc (mo G o g) := by
  funext a
  by_cases ha : a = o
  · subst ha
    rw [va_up_self]
    unfold mw_or
    rw [mo_off h, mo_self]
    rfl
  · rw [va_up_ne _ _ ha]
    unfold mw_or
    rw [mo_ne ha, mo_ne ha]
theorem mo_ds {o : Nat} {f g : Nat → Int64} (h : mw_ds Mc (mo G o f)) : mw_ds Mc (mo G o g) := fun a ha => by
  have h1 := h a ha
  by_cases hao : a = o
  · subst hao
    rw [mo_self] at h1
    cases h1
  · exact mo_ne hao
end MN
/-- what a small method of the law leaves: the class's world at the next state, the answer in its row -/
def l_po (G : mw_G) (b : c_B) (o : Nat) (cd : Int32) (x1 x : s_T) (an : Int64 → Prop) : Option Value → mw_M → Prop := mw_pi (fun r M1 => ∃ (Mx : mw_M) (f : Nat → Int64), r = cd ∧ M1 = mw_or Mx (mo G o f) ∧ mw_ds Mx (mo G o f) ∧ c_out G b (if cd = 0 then x1 else x) Mx ∧ (cd = 0 → an (f 0)))
theorem vpL0 {f : Nat → Int64} {v : Int64} : vp_updL f (0 : Int32).toNatClampNeg v 0 = v := if_pos (by decide)
theorem mw_or_l {M1 M2 : mw_M} {a : Nat} {e : va_E} (h : M1 a = some e) : mw_or M1 M2 a = some e := by
  unfold mw_or
  rw [h]
  rfl
