/-! CONTRACTS OVER MAPS, calls and ends. -/
def mw_Pre (G : mw_G) (av : List Value) (M : mw_M) (sz : Nat) : Array Value → State → Prop := va_Pc av (fun U => U.heap.size = sz ∧ mw_K mw_S G U ∧ mw_Z G (mw_A M sz) U U.heap ∧ mw_P G M U.heap)
def mw_Qr (G : mw_G) (M : mw_M) (sz : Nat) (post : Option Value → mw_M → Prop) : Array Value → State → Outcome → State → Prop := fun _ st oc t => ∃ (v : Option Value) (M1 : mw_M), oc = .returned v ∧ post v M1 ∧ mw_P G M1 t.heap ∧ (∀ a : Nat, M1 a ≠ none → mw_A M sz a) ∧ va_F (mw_A M sz) st t
def mw_Xr (G : mw_G) (M : mw_M) (sz : Nat) (px : String → Prop) : String → State → State → Prop := fun E st t => px E ∧ mw_P G M t.heap ∧ va_F (mw_A M sz) st t
/-- a method that returns -/
def mw_Met (l : Launch) (G : mw_G) (y : MethodName) (w : Cond) (rm : Room) (av : List Value) (M : mw_M) (post : Option Value → mw_M → Prop) : Prop := ∀ sz : Nat, Met l y [w] rm (mw_Pre G av M sz) (mw_Qr G M sz post) rm.cells rm.slots (mw_A M sz)
/-- a method that returns or throws; where it throws the map is as it was -/
def mw_MetX (l : Launch) (G : mw_G) (y : MethodName) (w : Cond) (rm : Room) (av : List Value) (M : mw_M) (post : Option Value → mw_M → Prop) (px : String → Prop) : Prop := ∀ sz : Nat, vx_Met l y [w] rm (mw_Pre G av M sz) (mw_Qr G M sz post) (mw_Xr G M sz px) rm.cells rm.slots (mw_A M sz)
abbrev mw_E (below : List Frame) (G : mw_G) (M : mw_M) (rm : Room) (post : Option Value → mw_M → Prop) (args : Array Value) (s : State) : State → Prop := MQ below (mw_Qr G M s.heap.size post) args s rm.cells rm.slots (mw_A M s.heap.size)
abbrev mw_EX (below : List Frame) (G : mw_G) (M : mw_M) (rm : Room) (post : Option Value → mw_M → Prop) (px : String → Prop) (args : Array Value) (s : State) : State → Prop := vx_MQ below (mw_Qr G M s.heap.size post) (mw_Xr G M s.heap.size px) args s rm.cells rm.slots (mw_A M s.heap.size)
/-- answers: nothing, an int, a cell -/
abbrev mw_pv (P : mw_M → Prop) : Option Value → mw_M → Prop := fun v M1 => v = none ∧ P M1
abbrev mw_pi (P : Int32 → mw_M → Prop) : Option Value → mw_M → Prop := fun v M1 => ∃ r : Int32, v = some (.int r) ∧ P r M1
abbrev mw_pr (P : Nat → mw_M → Prop) : Option Value → mw_M → Prop := fun v M1 => ∃ q : Nat, v = some (.ref q) ∧ P q M1
theorem mw_Pre.blind {G : mw_G} {av : List Value} {M : mw_M} {sz : Nat} : FrameBlind (mw_Pre G av M sz) := by
  intro a U g mk ⟨h1, h2, h3, h4, h5⟩
  exact ⟨h1, h2, mw_K.calling h3, mw_Z.moved (u := U) (U := U.calling g mk a) (Vm.Alike.refl U.vm) h4, h5⟩
theorem mw_body {p : Program} {l : Launch} {e : Env} {s s₁ : State} {m : MethodId} {args : Array Value} {below : List Frame} {meth : Method} {c : Code} {G : mw_G} {y : MethodName} {S : Spec} {cc : ByteArray} {maxL : Nat} {ret : Option FieldType} {av : List Value} {M : mw_M} (hfl : l.stackTraces = false) (B : BodyLoose p l y S cc maxL ret e s m args below meth c s₁) (hml : c.maxLocals = maxL) (hv : mw_Pre G av M s.heap.size args s) :
    args = av.toArray ∧ mw_B p l s m meth c cc maxL y.cls G (mw_A M s.heap.size) ∧ meth.name = y.name ∧ meth.sig.returnType = ret ∧ mw_T G (mw_A M s.heap.size) s M s.heap [] := by
  obtain ⟨h1, h2, h3, h4, h5⟩ := hv
  exact ⟨h1, ⟨B.exec, B.bytes, hml, findClass_of_methodNamed B.named, h3, h4, fun q h => Or.inr h, B.notSynchronized, hfl⟩, (name_of_methodNamed B.named B.method).1, B.returns, h5, fun a h => Or.inl h, va_S.rf⟩
theorem mw_of {l : Launch} {G : mw_G} {y : MethodName} {cc : ByteArray} {maxL : Nat} {ret : Option FieldType} {rm : Room} {av : List Value} {M : mw_M} {post : Option Value → mw_M → Prop} (hfl : l.stackTraces = false) (hy : plainName y.cls = true) (hlen : (lg_sl av).length ≤ maxL)
    (body : ∀ (p : Program) (e : Env) (s : State) (m : MethodId) (below : List Frame) (meth : Method) (c : Code) (ls : Array Slot), mw_B p l s m meth c cc maxL y.cls G (mw_A M s.heap.size) → meth.name = y.name → meth.sig.returnType = ret → mw_T G (mw_A M s.heap.size) s M s.heap [] → lv_has ls maxL (lv_args 0 av) →
      W p l e rm s m av.toArray below meth c s.heap [] 0 0 (mw_E below G M rm post av.toArray s) (F0 m 0 ls [])) : mw_Met l G y (.code y cc maxL ret) rm av M post := by
  intro sz
  refine Met.ofW (cc := cc) (maxL := maxL) (ret := ret) hy rfl ?_
  intro p e s m args below meth c s₁ B hml hv
  have hsz : s.heap.size = sz := hv.2.1
  subst hsz
  obtain ⟨rfl, X, h1, h2, hT⟩ := mw_body hfl B hml hv
  have hl := lv_entry av (n := maxL) hlen
  rw [lg_entry_eq]
  exact body p e s m below meth c _ X h1 h2 hT hl
theorem mw_ofX {l : Launch} {G : mw_G} {y : MethodName} {cc : ByteArray} {maxL : Nat} {ret : Option FieldType} {rm : Room} {av : List Value} {M : mw_M} {post : Option Value → mw_M → Prop} {px : String → Prop} (hfl : l.stackTraces = false) (hy : plainName y.cls = true) (hlen : (lg_sl av).length ≤ maxL)
    (body : ∀ (p : Program) (e : Env) (s : State) (m : MethodId) (below : List Frame) (meth : Method) (c : Code) (ls : Array Slot), mw_B p l s m meth c cc maxL y.cls G (mw_A M s.heap.size) → meth.name = y.name → meth.sig.returnType = ret → (∀ x ∈ c.exceptionTable.toList, False) → mw_T G (mw_A M s.heap.size) s M s.heap [] → lv_has ls maxL (lv_args 0 av) →
      W p l e rm s m av.toArray below meth c s.heap [] 0 0 (mw_EX below G M rm post px av.toArray s) (F0 m 0 ls [])) : mw_MetX l G y (.code y cc maxL ret) rm av M post px := by
  intro sz
  refine vx_ofW (cc := cc) (maxL := maxL) (ret := ret) hy rfl ?_
  intro p e s m args below meth c s₁ B hml hexc hv
  have hsz : s.heap.size = sz := hv.2.1
  subst hsz
  obtain ⟨rfl, X, h1, h2, hT⟩ := mw_body hfl B hml hv
  have hl := lv_entry av (n := maxL) hlen
  rw [lg_entry_eq]
  exact body p e s m below meth c _ X h1 h2 hexc hT hl
theorem mw_ofH {l : Launch} {G : mw_G} {y : MethodName} {cc : ByteArray} {maxL : Nat} {ret : Option FieldType} {hh : List (Nat × Nat × Nat × Nat)} {rm : Room} {av : List Value} {M : mw_M} {post : Option Value → mw_M → Prop} {px : String → Prop} (hfl : l.stackTraces = false) (hy : plainName y.cls = true) (hlen : (lg_sl av).length ≤ maxL)
    (body : ∀ (p : Program) (e : Env) (s : State) (m : MethodId) (below : List Frame) (meth : Method) (c : Code) (ls : Array Slot), mw_B p l s m meth c cc maxL y.cls G (mw_A M s.heap.size) → meth.name = y.name → meth.sig.returnType = ret → c.exceptionTable.toList = tableOf hh → mw_T G (mw_A M s.heap.size) s M s.heap [] → lv_has ls maxL (lv_args 0 av) →
      W p l e rm s m av.toArray below meth c s.heap [] 0 0 (mw_EX below G M rm post px av.toArray s) (F0 m 0 ls [])) : mw_MetX l G y (.codeWith y cc maxL ret hh) rm av M post px := by
  intro sz
  refine vx_ofWH (cc := cc) (maxL := maxL) (ret := ret) (hh := hh) hy rfl ?_
  intro p e s m args below meth c s₁ B hml hv
  have hsz : s.heap.size = sz := hv.2.1
  subst hsz
  have htab := vx_table (x := y) B (atoms_spec (ws := [Cond.codeWith y cc maxL ret hh]) B.pre _ List.mem_cons_self)
  obtain ⟨rfl, X, h1, h2, hT⟩ := mw_body hfl B hml hv
  have hl := lv_entry av (n := maxL) hlen
  rw [lg_entry_eq]
  exact body p e s m below meth c _ X h1 h2 htab hT hl
/-! calls -/
def mw_or (M1 M2 : mw_M) : mw_M := fun a => (M1 a).or (M2 a)
def mw_nil : mw_M := fun _ => none
theorem mw_or_nil (M : mw_M) : mw_or M mw_nil = M := by
  funext a
  show (M a).or none = M a
  cases M a <;> rfl
def mw_ds (M1 M2 : mw_M) : Prop := ∀ a : Nat, M1 a ≠ none → M2 a = none
theorem mw_ds_nil (M : mw_M) : mw_ds M mw_nil := fun _ _ => rfl
def mw_CB (own : String) (index : Nat) (y : MethodName) (n : Nat) : Prop := Cond.initialized y.cls ∈ lw_tbl ∧ (y.cls ≠ "java/lang/invoke/MethodHandle" ∧ y.cls ≠ "java/lang/invoke/VarHandle") ∧ (parseMethodDescriptor y.desc).map (fun d => d.parameters.length) = some n ∧ Cond.methodLink own index y ∈ lw_tbl
def mw_CN (own : String) (index : Nat) (y : MethodName) (n : Nat) : Prop := Cond.initialized y.cls ∈ lw_tbl ∧ (y.cls ≠ "java/lang/invoke/MethodHandle" ∧ y.cls ≠ "java/lang/invoke/VarHandle") ∧ (parseMethodDescriptor y.desc).map (fun d => d.parameters.length) = some n ∧ ∃ host : String, Cond.methodLinkNest own index y host ∈ lw_tbl
section MC
variable {p : Program} {l : Launch} {e : Env} {R : Room} {s : State} {m : MethodId} {args : Array Value} {below : List Frame} {meth : Method} {c : Code} {H : Heap} {locs : List Loc} {cells slots : Nat} {Q : State → Prop}
variable {cc : ByteArray} {pc maxL : Nat} {own : String} {ls : Array Slot} {rest st0 : List Value} {A : Nat → Prop} {G : mw_G} {M Mc Mr : mw_M}
variable {y : MethodName} {bytes : ByteArray} {maxL2 index n : Nat} {ret : Option FieldType} {rm : Room} {post : Option Value → mw_M → Prop} {px : String → Prop} {av : List Value}
theorem mr_pre (X : mw_B p l s m meth c cc maxL own G A) (hT : mw_T G A s (mw_or Mc Mr) H locs) (U : State) (hU : U.heap = H) (hW : s.WarmedH U.vm) : mw_Pre G av Mc H.size av.toArray U := by
  have hS := hT.2.2
  refine ⟨rfl, by rw [hU], mw_K.warm hW X.2.2.2.2.1, ?_, ?_⟩
  · have h1 : mw_Z G A s H := X.2.2.2.2.2.1.kept hS.1 (fun q h1 h2 => hS.2.1 q h1 h2)
    have h2 := h1.moved (U := U) hW.alike
    rw [hU]
    refine h2.narrowH (fun q hq hz => ?_)
    rcases hz with hz | hz
    · refine hT.2.1 q ?_
      unfold mw_or
      cases hq2 : Mc q with
      | none => exact absurd hq2 hz
      | some e => exact fun z => by cases z
    · omega
  · rw [hU]
    intro a e ha
    refine hT.1 a e ?_
    unfold mw_or
    rw [ha]
    rfl
theorem mr_cb (X : mw_B p l s m meth c cc maxL own G A) (cb : mw_CB own index y n) (hcode : Cond.code y bytes maxL2 ret ∈ lw_tbl) (hR : rm.frames + 1 ≤ R.frames ∧ 8 + (maxL2 + 11) + rm.locals ≤ R.locals) : CallB R s args own index y bytes maxL2 ret [Cond.code y bytes maxL2 ret] rm rm.cells rm.slots n := by
  have hW := X.2.2.2.2.1.1
  have hc : (Cond.code y bytes maxL2 ret).before args s = true := mw_use hW hcode rfl
  refine ⟨rfl, rfl, hR.1, hR.2, fun w hw a' U hU => ?_, List.mem_cons_self, hc, mw_use hW cb.1 rfl, cb.2.1, fun sig h => ?_, mw_use hW cb.2.2.2 rfl⟩
  · rcases List.mem_singleton.mp hw with rfl
    exact word_at hU (Or.inl rfl) hc
  · have h2 := cb.2.2.1
    rw [h] at h2
    exact (Option.some.inj h2).symm
theorem mr_cn (X : mw_B p l s m meth c cc maxL own G A) (cb : mw_CN own index y n) (hcode : Cond.code y bytes maxL2 ret ∈ lw_tbl) (hR : rm.frames + 1 ≤ R.frames ∧ 8 + (maxL2 + 11) + rm.locals ≤ R.locals) : ∃ host : String, va_CN R s args own index y host bytes maxL2 ret [Cond.code y bytes maxL2 ret] rm rm.cells rm.slots n := by
  have hW := X.2.2.2.2.1.1
  have hc : (Cond.code y bytes maxL2 ret).before args s = true := mw_use hW hcode rfl
  obtain ⟨host, hl⟩ := cb.2.2.2
  refine ⟨host, ⟨rfl, rfl, hR.1, hR.2, fun w hw a' U hU => ?_, List.mem_cons_self⟩, hc, mw_use hW cb.1 rfl, cb.2.1, fun sig h => ?_, mw_use hW hl rfl⟩
  · rcases List.mem_singleton.mp hw with rfl
    exact word_at hU (Or.inl rfl) hc
  · have h2 := cb.2.2.1
    rw [h] at h2
    exact (Option.some.inj h2).symm
abbrev mw_Run (p : Program) (l : Launch) (e : Env) (R : Room) (s : State) (m : MethodId) (args : Array Value) (below : List Frame) (meth : Method) (c : Code) (G : mw_G) (Mc : mw_M) (H : Heap) (locs : List Loc) (cells slots : Nat) (rm : Room) (g : JFrame) (rest : List Value) (post : Option Value → mw_M → Prop) : Prop := ∃ a : Array Value, va_Run p l e R s m args below meth c H locs cells slots rm.cells rm.slots g rest (mw_Qr G Mc H.size post a) (mw_A Mc H.size)
abbrev mw_RunX (p : Program) (l : Launch) (e : Env) (R : Room) (s : State) (m : MethodId) (args : Array Value) (below : List Frame) (meth : Method) (c : Code) (G : mw_G) (Mc : mw_M) (H : Heap) (locs : List Loc) (cells slots : Nat) (rm : Room) (g : JFrame) (rest : List Value) (post : Option Value → mw_M → Prop) (px : String → Prop) : Prop := ∃ a : Array Value, vx_Run p l e R s m args below meth c H locs cells slots rm.cells rm.slots g rest (mw_Qr G Mc H.size post a) (mw_Xr G Mc H.size px) (mw_A Mc H.size)
variable {b : Nat} {As : List Value} {C : String}
theorem mr_runV (X : mw_B p l s m meth c cc maxL own G A) (hT : mw_T G A s (mw_or Mc Mr) H locs) (cb : mw_CB own index y n) (hi : Cond.instanceMethod y ∈ lw_tbl) (hs : Cond.selects C y y ∈ lw_tbl) (hcode : Cond.code y bytes maxL2 ret ∈ lw_tbl) (hM : mw_Met l G y (.code y bytes maxL2 ret) rm (.ref b :: As) Mc post) (hrecv : ∃ cell : Cell, H[b]? = some cell ∧ cell.vm.isStatics = false ∧ s.vm.findClass C = some cell.cls) (hst : st0 = As.reverse ++ .ref b :: rest) (hn : As.length = n) (hsize : ls.size = maxL) (hR : rm.frames + 1 ≤ R.frames ∧ 8 + (maxL2 + 11) + rm.locals ≤ R.locals) (hW : (rest.map fun v => v.category).sum ≤ 8) (hdg : decode cc pc = .ok (.invokevirtual index, 3)) (hf : cells + rm.cells ≤ R.cells ∧ slots + rm.slots ≤ R.slots) :
    mw_Run p l e R s m args below meth c G Mc H locs cells slots rm (F0 m pc ls st0) rest post :=
  ⟨_, va_runV (As := As) (Ts := []) ⟨X.1, X.2.1, X.2.2.1, X.2.2.2.1, fun _ h => nomatch h⟩ (hM H.size) ⟨mr_cb X cb hcode hR, mw_use X.2.2.2.2.1.1 hi rfl, mw_use X.2.2.2.2.1.1 hs rfl⟩ ⟨mw_Pre.blind, hrecv, fun U hU hWU => mr_pre (av := .ref b :: As) X hT U hU hWU⟩ rfl hn hsize hst (lv_room hW) hdg hf⟩
theorem mr_runVN (X : mw_B p l s m meth c cc maxL own G A) (hT : mw_T G A s (mw_or Mc Mr) H locs) (cb : mw_CN own index y n) (hi : Cond.instanceMethod y ∈ lw_tbl) (hs : Cond.selects C y y ∈ lw_tbl) (hcode : Cond.code y bytes maxL2 ret ∈ lw_tbl) (hM : mw_Met l G y (.code y bytes maxL2 ret) rm (.ref b :: As) Mc post) (hrecv : ∃ cell : Cell, H[b]? = some cell ∧ cell.vm.isStatics = false ∧ s.vm.findClass C = some cell.cls) (hst : st0 = As.reverse ++ .ref b :: rest) (hn : As.length = n) (hsize : ls.size = maxL) (hR : rm.frames + 1 ≤ R.frames ∧ 8 + (maxL2 + 11) + rm.locals ≤ R.locals) (hW : (rest.map fun v => v.category).sum ≤ 8) (hdg : decode cc pc = .ok (.invokevirtual index, 3)) (hf : cells + rm.cells ≤ R.cells ∧ slots + rm.slots ≤ R.slots) :
    mw_Run p l e R s m args below meth c G Mc H locs cells slots rm (F0 m pc ls st0) rest post := by
  obtain ⟨host, hcn⟩ := mr_cn (args := args) X cb hcode hR
  exact ⟨_, va_runVN (As := As) (Ts := []) ⟨X.1, X.2.1, X.2.2.1, X.2.2.2.1, fun _ h => nomatch h⟩ (hM H.size) ⟨hcn, mw_use X.2.2.2.2.1.1 hi rfl, mw_use X.2.2.2.2.1.1 hs rfl⟩ ⟨mw_Pre.blind, hrecv, fun U hU hWU => mr_pre (av := .ref b :: As) X hT U hU hWU⟩ rfl hn hsize hst (lv_room hW) hdg hf⟩
theorem mr_runS (X : mw_B p l s m meth c cc maxL own G A) (hT : mw_T G A s (mw_or Mc Mr) H locs) (cb : mw_CB own index y n) (hi : Cond.static y ∈ lw_tbl) (hcode : Cond.code y bytes maxL2 ret ∈ lw_tbl) (hM : mw_Met l G y (.code y bytes maxL2 ret) rm As Mc post) (hst : st0 = As.reverse ++ rest) (hn : As.length = n) (hsize : ls.size = maxL) (hR : rm.frames + 1 ≤ R.frames ∧ 8 + (maxL2 + 11) + rm.locals ≤ R.locals) (hW : (rest.map fun v => v.category).sum ≤ 8) (hdg : decode cc pc = .ok (.invokestatic index, 3)) (hf : cells + rm.cells ≤ R.cells ∧ slots + rm.slots ≤ R.slots) :
    mw_Run p l e R s m args below meth c G Mc H locs cells slots rm (F0 m pc ls st0) rest post :=
  ⟨_, va_runS (As := As) (Ts := []) ⟨X.1, X.2.1, X.2.2.1, X.2.2.2.1, fun _ h => nomatch h⟩ (hM H.size) ⟨mr_cb X cb hcode hR, mw_use X.2.2.2.2.1.1 hi rfl⟩ ⟨mw_Pre.blind, fun U hU hWU => mr_pre (av := As) X hT U hU hWU⟩ rfl hn hsize hst (lv_room hW) hdg hf⟩
theorem mr_runI (X : mw_B p l s m meth c cc maxL own G A) (hT : mw_T G A s (mw_or Mc Mr) H locs) (cb : mw_CB own index y n) (hi : Cond.instanceMethod y ∈ lw_tbl) (hnm : y.name = "<init>") (hcode : Cond.code y bytes maxL2 none ∈ lw_tbl) (hM : mw_Met l G y (.code y bytes maxL2 none) rm (.ref b :: As) Mc post) (hst : st0 = As.reverse ++ .ref b :: rest) (hn : As.length = n) (hsize : ls.size = maxL) (hR : rm.frames + 1 ≤ R.frames ∧ 8 + (maxL2 + 11) + rm.locals ≤ R.locals) (hW : (rest.map fun v => v.category).sum ≤ 8) (hdg : decode cc pc = .ok (.invokespecial index, 3)) (hf : cells + rm.cells ≤ R.cells ∧ slots + rm.slots ≤ R.slots) :
    mw_Run p l e R s m args below meth c G Mc H locs cells slots rm (F0 m pc ls st0) rest post :=
  ⟨_, va_runI (As := As) (Ts := []) ⟨X.1, X.2.1, X.2.2.1, X.2.2.2.1, fun _ h => nomatch h⟩ (hM H.size) ⟨mr_cb X cb hcode hR, hnm, mw_use X.2.2.2.2.1.1 hi rfl⟩ ⟨mw_Pre.blind, fun U hU hWU => mr_pre (av := .ref b :: As) X hT U hU hWU⟩ rfl hn hsize hst (lv_room hW) hdg hf⟩
theorem mr_runIN (X : mw_B p l s m meth c cc maxL own G A) (hT : mw_T G A s (mw_or Mc Mr) H locs) (cb : mw_CN own index y n) (hi : Cond.instanceMethod y ∈ lw_tbl) (hnm : y.name = "<init>") (hcode : Cond.code y bytes maxL2 none ∈ lw_tbl) (hM : mw_Met l G y (.code y bytes maxL2 none) rm (.ref b :: As) Mc post) (hst : st0 = As.reverse ++ .ref b :: rest) (hn : As.length = n) (hsize : ls.size = maxL) (hR : rm.frames + 1 ≤ R.frames ∧ 8 + (maxL2 + 11) + rm.locals ≤ R.locals) (hW : (rest.map fun v => v.category).sum ≤ 8) (hdg : decode cc pc = .ok (.invokespecial index, 3)) (hf : cells + rm.cells ≤ R.cells ∧ slots + rm.slots ≤ R.slots) :
    mw_Run p l e R s m args below meth c G Mc H locs cells slots rm (F0 m pc ls st0) rest post := by
  obtain ⟨host, hcn⟩ := mr_cn (args := args) X cb hcode hR
  exact ⟨_, va_runIN (As := As) (Ts := []) ⟨X.1, X.2.1, X.2.2.1, X.2.2.2.1, fun _ h => nomatch h⟩ (hM H.size) ⟨hcn, hnm, mw_use X.2.2.2.2.1.1 hi rfl⟩ ⟨mw_Pre.blind, fun U hU hWU => mr_pre (av := .ref b :: As) X hT U hU hWU⟩ rfl hn hsize hst (lv_room hW) hdg hf⟩
theorem mr_runVX (X : mw_B p l s m meth c cc maxL own G A) (hT : mw_T G A s (mw_or Mc Mr) H locs) (cb : mw_CB own index y n) (hi : Cond.instanceMethod y ∈ lw_tbl) (hs : Cond.selects C y y ∈ lw_tbl) (hcode : Cond.code y bytes maxL2 ret ∈ lw_tbl) (hM : mw_MetX l G y (.code y bytes maxL2 ret) rm (.ref b :: As) Mc post px) (hrecv : ∃ cell : Cell, H[b]? = some cell ∧ cell.vm.isStatics = false ∧ s.vm.findClass C = some cell.cls) (hst : st0 = As.reverse ++ .ref b :: rest) (hn : As.length = n) (hsize : ls.size = maxL) (hR : rm.frames + 1 ≤ R.frames ∧ 8 + (maxL2 + 11) + rm.locals ≤ R.locals) (hW : (rest.map fun v => v.category).sum ≤ 8) (hdg : decode cc pc = .ok (.invokevirtual index, 3)) (hf : cells + rm.cells ≤ R.cells ∧ slots + rm.slots ≤ R.slots) :
    mw_RunX p l e R s m args below meth c G Mc H locs cells slots rm (F0 m pc ls st0) rest post px :=
  ⟨_, vx_runV (As := As) (Ts := []) ⟨X.1, X.2.1, X.2.2.1, X.2.2.2.1, fun _ h => nomatch h⟩ (hM H.size) ⟨mr_cb X cb hcode hR, mw_use X.2.2.2.2.1.1 hi rfl, mw_use X.2.2.2.2.1.1 hs rfl⟩ ⟨mw_Pre.blind, hrecv, fun U hU hWU => mr_pre (av := .ref b :: As) X hT U hU hWU⟩ rfl hn hsize hst (lv_room hW) hdg hf⟩
theorem mr_runSX (X : mw_B p l s m meth c cc maxL own G A) (hT : mw_T G A s (mw_or Mc Mr) H locs) (cb : mw_CB own index y n) (hi : Cond.static y ∈ lw_tbl) (hcode : Cond.code y bytes maxL2 ret ∈ lw_tbl) (hM : mw_MetX l G y (.code y bytes maxL2 ret) rm As Mc post px) (hst : st0 = As.reverse ++ rest) (hn : As.length = n) (hsize : ls.size = maxL) (hR : rm.frames + 1 ≤ R.frames ∧ 8 + (maxL2 + 11) + rm.locals ≤ R.locals) (hW : (rest.map fun v => v.category).sum ≤ 8) (hdg : decode cc pc = .ok (.invokestatic index, 3)) (hf : cells + rm.cells ≤ R.cells ∧ slots + rm.slots ≤ R.slots) :
    mw_RunX p l e R s m args below meth c G Mc H locs cells slots rm (F0 m pc ls st0) rest post px :=
  ⟨_, vx_runS (As := As) (Ts := []) ⟨X.1, X.2.1, X.2.2.1, X.2.2.2.1, fun _ h => nomatch h⟩ (hM H.size) ⟨mr_cb X cb hcode hR, mw_use X.2.2.2.2.1.1 hi rfl⟩ ⟨mw_Pre.blind, fun U hU hWU => mr_pre (av := As) X hT U hU hWU⟩ rfl hn hsize hst (lv_room hW) hdg hf⟩
theorem mr_runSH {hh : List (Nat × Nat × Nat × Nat)} (X : mw_B p l s m meth c cc maxL own G A) (hT : mw_T G A s (mw_or Mc Mr) H locs) (cb : mw_CB own index y n) (hi : Cond.static y ∈ lw_tbl) (hcode : Cond.codeWith y bytes maxL2 ret hh ∈ lw_tbl) (hM : mw_MetX l G y (.codeWith y bytes maxL2 ret hh) rm As Mc post px) (hst : st0 = As.reverse ++ rest) (hn : As.length = n) (hsize : ls.size = maxL) (hR : rm.frames + 1 ≤ R.frames ∧ 8 + (maxL2 + 11) + rm.locals ≤ R.locals) (hW : (rest.map fun v => v.category).sum ≤ 8) (hdg : decode cc pc = .ok (.invokestatic index, 3)) (hf : cells + rm.cells ≤ R.cells ∧ slots + rm.slots ≤ R.slots) :
    mw_RunX p l e R s m args below meth c G Mc H locs cells slots rm (F0 m pc ls st0) rest post px := by
  have hW2 := X.2.2.2.2.1.1
  have hc : (Cond.codeWith y bytes maxL2 ret hh).before args s = true := mw_use hW2 hcode rfl
  refine ⟨_, vx_runSX (As := As) (Ts := []) (hh := hh) ⟨X.1, X.2.1, X.2.2.1, X.2.2.2.1, fun _ h => nomatch h⟩ (hM H.size) ⟨⟨rfl, rfl, hR.1, hR.2, fun w hw a' U hU => ?_, List.mem_cons_self⟩, hc, mw_use hW2 cb.1 rfl, cb.2.1, fun sig h => ?_, mw_use hW2 cb.2.2.2 rfl, mw_use hW2 hi rfl⟩ ⟨mw_Pre.blind, fun U hU hWU => mr_pre (av := As) X hT U hU hWU⟩ rfl hn hsize hst (lv_room hW) hdg hf⟩
  · rcases List.mem_singleton.mp hw with rfl
    exact word_at hU (Or.inl rfl) hc
  · have h2 := cb.2.2.1
    rw [h] at h2
    exact (Option.some.inj h2).symm
/-- behind a call: the callee's new map beside the rest -/
theorem mr_joined {st₀ t T' : State} {L : List Loc} {M1 : mw_M} (hA : ∀ q : Nat, s.heap.size ≤ q → A q) (hT : mw_T G A s (mw_or Mc Mr) H locs) (hd : mw_ds Mc Mr) (h0 : st₀.heap = H) (e1 : T'.heap = t.heap) (hL : ∀ q ∈ L, mw_A Mc H.size q.base) (hP : mw_P G M1 t.heap) (hD : ∀ a : Nat, M1 a ≠ none → mw_A Mc H.size a) (hF : va_F (mw_A Mc H.size) st₀ t) :
    mw_ds M1 Mr ∧ mw_T G A s (mw_or M1 Mr) T'.heap (locs ++ L) := by
  have hin : ∀ q : Nat, Mc q ≠ none → A q := fun q hq => by
    refine hT.2.1 q ?_
    unfold mw_or
    cases hq2 : Mc q with
    | none => exact absurd hq2 hq
    | some e => exact fun z => by cases z
  have hcA : ∀ q : Nat, mw_A Mc H.size q → A q := fun q hq => by
    rcases hq with hq | hq
    · exact hin q hq
    · exact hA q (Nat.le_trans hT.2.2.1 hq)
  obtain ⟨k1, k2, k3⟩ := vx_keep h0 e1 hT.2.2 (fun q _ h => hcA q h) (fun q h => hcA q h) hL hF
  have hr : ∀ (a : Nat) (e : va_E), Mr a = some e → Mc a = none ∧ mw_or Mc Mr a = some e ∧ a < H.size := fun a e ha => by
    have hn : Mc a = none := by
      cases hq2 : Mc a with
      | none => rfl
      | some e2 => have := hd a (by rw [hq2]; exact fun z => by cases z); rw [ha] at this; cases this
    have ho : mw_or Mc Mr a = some e := by unfold mw_or; rw [hn, ha]; rfl
    exact ⟨hn, ho, hT.1.lt ho⟩
  have hno : ∀ (a : Nat) (e : va_E), Mr a = some e → ¬ mw_A Mc H.size a := fun a e ha hz => by
    obtain ⟨h1, -, h3⟩ := hr a e ha
    rcases hz with hz | hz
    · exact hz h1
    · omega
  have hds : mw_ds M1 Mr := fun a ha => by
    cases hq2 : Mr a with
    | none => rfl
    | some e2 => exact absurd (hD a ha) (hno a e2 hq2)
  refine ⟨hds, fun a e ha => ?_, fun a ha => ?_, k3⟩
  · unfold mw_or at ha
    cases h1 : M1 a with
    | some e1' =>
      rw [h1] at ha
      cases ha
      rw [e1]
      exact hP a _ h1
    | none =>
      rw [h1] at ha
      have ha : Mr a = some e := ha
      obtain ⟨g1, g2, g3⟩ := hr a e ha
      exact (hT.1 a e g2).kept (k2 a g3 (hno a e ha))
  · unfold mw_or at ha
    cases h1 : M1 a with
    | some e1' => exact hcA a (hD a (by rw [h1]; exact fun z => by cases z))
    | none =>
      rw [h1] at ha
      have ha : Mr a ≠ none := ha
      cases h2 : Mr a with
      | none => exact absurd h2 ha
      | some e2 => exact hT.2.1 a (by rw [(hr a e2 h2).2.1]; exact fun z => by cases z)
theorem mr_go (X : mw_B p l s m meth c cc maxL own G A) (hT : mw_T G A s (mw_or Mc Mr) H locs) (hd : mw_ds Mc Mr) (hr : mw_Run p l e R s m args below meth c G Mc H locs cells slots rm (F0 m pc ls st0) rest post)
    (kk : ∀ (v : Option Value) (M1 : mw_M) (H1 : Heap) (locs1 : List Loc), post v M1 → mw_ds M1 Mr → mw_T G A s (mw_or M1 Mr) H1 locs1 → W p l e R s m args below meth c H1 locs1 (cells + rm.cells) (slots + rm.slots) Q (F0 m (pc + 3) ls (v.toList ++ rest))) : W p l e R s m args below meth c H locs cells slots Q (F0 m pc ls st0) := by
  obtain ⟨a, hr⟩ := hr
  intro T hT0 X0
  obtain ⟨v, st₀, t, T', L, h0, X', hL, e1, e2, ⟨v', M1, hv, hp, hP, hD, hF⟩, st⟩ := hr T hT0 X0
  cases hv
  obtain ⟨j1, j2⟩ := mr_joined X.2.2.2.2.2.2.1 hT hd h0 e1 hL hP hD hF
  obtain ⟨t2, a1, b1⟩ := kk v M1 T'.heap (locs ++ L) hp j1 j2 T' rfl X'
  exact ⟨t2, st t2 a1, b1⟩
theorem mr_goX (X : mw_B p l s m meth c cc maxL own G A) (hT : mw_T G A s (mw_or Mc Mr) H locs) (hd : mw_ds Mc Mr) (hr : mw_RunX p l e R s m args below meth c G Mc H locs cells slots rm (F0 m pc ls st0) rest post px)
    (kx : ∀ (E : String) (ce : Cell) (q9 : Addr) (H1 : Heap) (locs1 : List Loc), px E → mw_T G A s (mw_or Mc Mr) H1 locs1 → H1[q9]? = some ce → ce.vm = .none → s.vm.findClass E = some ce.cls → vx_W p l e R s m args below meth c H1 locs1 (cells + rm.cells) (slots + rm.slots) Q (F0 m pc ls rest) q9)
    (kk : ∀ (v : Option Value) (M1 : mw_M) (H1 : Heap) (locs1 : List Loc), post v M1 → mw_ds M1 Mr → mw_T G A s (mw_or M1 Mr) H1 locs1 → W p l e R s m args below meth c H1 locs1 (cells + rm.cells) (slots + rm.slots) Q (F0 m (pc + 3) ls (v.toList ++ rest))) : W p l e R s m args below meth c H locs cells slots Q (F0 m pc ls st0) := by
  obtain ⟨a, hr⟩ := hr
  intro T hT0 X0
  rcases hr T hT0 X0 with ⟨v, st₀, t, T', L, h0, X', hL, e1, e2, ⟨v', M1, hv, hp, hP, hD, hF⟩, st⟩ | ⟨q, st₀, t, T', L, E, ce, h0, X', hL, e1, e2, ⟨hp, hP, hF⟩, hce, hcv, hcl, st⟩
  · cases hv
    obtain ⟨j1, j2⟩ := mr_joined X.2.2.2.2.2.2.1 hT hd h0 e1 hL hP hD hF
    obtain ⟨t2, a1, b1⟩ := kk v M1 T'.heap (locs ++ L) hp j1 j2 T' rfl X'
    exact ⟨t2, st t2 a1, b1⟩
  · obtain ⟨j1, j2⟩ := mr_joined X.2.2.2.2.2.2.1 hT hd h0 e1 hL hP (fun a h => Or.inl h) hF
    obtain ⟨t2, a1, b1⟩ := kx E ce q T'.heap (locs ++ L) hp j2 (by rw [e1]; exact hce) hcv hcl T' rfl X'
    exact ⟨t2, st.trans a1, b1⟩
/-- the same, the callee with the whole map -/
theorem mr_g (X : mw_B p l s m meth c cc maxL own G A) (hT : mw_T G A s M H locs) (hr : mw_T G A s (mw_or M mw_nil) H locs → mw_Run p l e R s m args below meth c G M H locs cells slots rm (F0 m pc ls st0) rest post)
    (kk : ∀ (v : Option Value) (M1 : mw_M) (H1 : Heap) (locs1 : List Loc), post v M1 → mw_T G A s M1 H1 locs1 → W p l e R s m args below meth c H1 locs1 (cells + rm.cells) (slots + rm.slots) Q (F0 m (pc + 3) ls (v.toList ++ rest))) : W p l e R s m args below meth c H locs cells slots Q (F0 m pc ls st0) := by
  have hT' : mw_T G A s (mw_or M mw_nil) H locs := by rw [mw_or_nil]; exact hT
  refine mr_go X hT' (mw_ds_nil M) (hr hT') (fun v M1 H1 locs1 hp _ hT1 => ?_)
  rw [mw_or_nil] at hT1
  exact kk v M1 H1 locs1 hp hT1
theorem mr_gX (X : mw_B p l s m meth c cc maxL own G A) (hT : mw_T G A s M H locs) (hr : mw_T G A s (mw_or M mw_nil) H locs → mw_RunX p l e R s m args below meth c G M H locs cells slots rm (F0 m pc ls st0) rest post px)
    (kx : ∀ (E : String) (ce : Cell) (q9 : Addr) (H1 : Heap) (locs1 : List Loc), px E → mw_T G A s M H1 locs1 → H1[q9]? = some ce → ce.vm = .none → s.vm.findClass E = some ce.cls → vx_W p l e R s m args below meth c H1 locs1 (cells + rm.cells) (slots + rm.slots) Q (F0 m pc ls rest) q9)
    (kk : ∀ (v : Option Value) (M1 : mw_M) (H1 : Heap) (locs1 : List Loc), post v M1 → mw_T G A s M1 H1 locs1 → W p l e R s m args below meth c H1 locs1 (cells + rm.cells) (slots + rm.slots) Q (F0 m (pc + 3) ls (v.toList ++ rest))) : W p l e R s m args below meth c H locs cells slots Q (F0 m pc ls st0) := by
  have hT' : mw_T G A s (mw_or M mw_nil) H locs := by rw [mw_or_nil]; exact hT
  refine mr_goX X hT' (mw_ds_nil M) (hr hT') (fun E ce q9 H1 locs1 hp hT1 h1 h2 h3 => ?_) (fun v M1 H1 locs1 hp _ hT1 => ?_)
  · rw [mw_or_nil] at hT1
    exact kx E ce q9 H1 locs1 hp hT1 h1 h2 h3
  · rw [mw_or_nil] at hT1
    exact kk v M1 H1 locs1 hp hT1
/-! ends -/
theorem mr_post (hT : mw_T G (mw_A M s.heap.size) s Mc H locs) {v : Option Value} (hp : post v Mc) (t : State) (ht : t.heap = H) : mw_Qr G M s.heap.size post args s (.returned v) t :=
  ⟨v, Mc, rfl, hp, by rw [ht]; exact hT.1, hT.2.1, hT.2.2.F ht⟩
theorem mr_iret (X : mw_B p l s m meth c cc maxL own G (mw_A M s.heap.size)) (hT : mw_T G (mw_A M s.heap.size) s Mc H locs) (hr : meth.sig.returnType = some .int) {v : Int32} (hp : post (some (.int v)) Mc) (hc : cells ≤ rm.cells) (hs : slots ≤ rm.slots) (hdg : decode cc pc = .ok (.ireturn, 1)) : W p l e R s m args below meth c H locs cells slots (mw_E below G M rm post args s) (F0 m pc ls [.int v]) :=
  W.widen hc hs (W.iret X.1 X.2.1 hr (fun t ht _ => mr_post hT hp t ht) hT.2.2.2.2 hdg (hlocks := X.2.2.2.2.2.2.2.1))
theorem mr_zret (X : mw_B p l s m meth c cc maxL own G (mw_A M s.heap.size)) (hT : mw_T G (mw_A M s.heap.size) s Mc H locs) (hr : meth.sig.returnType = some .boolean) {v : Int32} (hn : narrow .boolean (.int v) = .int v) (hp : post (some (.int v)) Mc) (hc : cells ≤ rm.cells) (hs : slots ≤ rm.slots) (hdg : decode cc pc = .ok (.ireturn, 1)) : W p l e R s m args below meth c H locs cells slots (mw_E below G M rm post args s) (F0 m pc ls [.int v]) :=
  W.widen hc hs (W.zret X.1 X.2.1 hr hn (fun t ht _ => mr_post hT hp t ht) hT.2.2.2.2 hdg (hlocks := X.2.2.2.2.2.2.2.1))
theorem mr_vret (X : mw_B p l s m meth c cc maxL own G (mw_A M s.heap.size)) (hT : mw_T G (mw_A M s.heap.size) s Mc H locs) (hr : meth.sig.returnType = none) (hp : post none Mc) (hc : cells ≤ rm.cells) (hs : slots ≤ rm.slots) (hdg : decode cc pc = .ok (.return_, 1)) : W p l e R s m args below meth c H locs cells slots (mw_E below G M rm post args s) (F0 m pc ls []) :=
  W.widen hc hs (W.vret X.1 X.2.1 hr (fun t ht _ => mr_post hT hp t ht) hT.2.2.2.2 hdg (hlocks := X.2.2.2.2.2.2.2.1))
theorem mr_aret (X : mw_B p l s m meth c cc maxL own G (mw_A M s.heap.size)) (hT : mw_T G (mw_A M s.heap.size) s Mc H locs) {rt : FieldType} (hr : meth.sig.returnType = some rt) (hrt : (∃ n, rt = .object n) ∨ ∃ t, rt = .array t) {q : Nat} (hp : post (some (.ref q)) Mc) (hc : cells ≤ rm.cells) (hs : slots ≤ rm.slots) (hdg : decode cc pc = .ok (.areturn, 1)) : W p l e R s m args below meth c H locs cells slots (mw_E below G M rm post args s) (F0 m pc ls [.ref q]) :=
  W.widen hc hs (W.aret X.1 X.2.1 hr hrt (Or.inr ⟨q, rfl⟩) (fun t ht _ => mr_post hT hp t ht) hT.2.2.2.2 hdg (hlocks := X.2.2.2.2.2.2.2.1))
theorem mr_iretX (X : mw_B p l s m meth c cc maxL own G (mw_A M s.heap.size)) (hT : mw_T G (mw_A M s.heap.size) s Mc H locs) (hr : meth.sig.returnType = some .int) {v : Int32} (hp : post (some (.int v)) Mc) (hc : cells ≤ rm.cells) (hs : slots ≤ rm.slots) (hdg : decode cc pc = .ok (.ireturn, 1)) : W p l e R s m args below meth c H locs cells slots (mw_EX below G M rm post px args s) (F0 m pc ls [.int v]) := vx_ret (mr_iret X hT hr hp hc hs hdg)
theorem mr_zretX (X : mw_B p l s m meth c cc maxL own G (mw_A M s.heap.size)) (hT : mw_T G (mw_A M s.heap.size) s Mc H locs) (hr : meth.sig.returnType = some .boolean) {v : Int32} (hn : narrow .boolean (.int v) = .int v) (hp : post (some (.int v)) Mc) (hc : cells ≤ rm.cells) (hs : slots ≤ rm.slots) (hdg : decode cc pc = .ok (.ireturn, 1)) : W p l e R s m args below meth c H locs cells slots (mw_EX below G M rm post px args s) (F0 m pc ls [.int v]) := vx_ret (mr_zret X hT hr hn hp hc hs hdg)
theorem mr_vretX (X : mw_B p l s m meth c cc maxL own G (mw_A M s.heap.size)) (hT : mw_T G (mw_A M s.heap.size) s Mc H locs) (hr : meth.sig.returnType = none) (hp : post none Mc) (hc : cells ≤ rm.cells) (hs : slots ≤ rm.slots) (hdg : decode cc pc = .ok (.return_, 1)) : W p l e R s m args below meth c H locs cells slots (mw_EX below G M rm post px args s) (F0 m pc ls []) := vx_ret (mr_vret X hT hr hp hc hs hdg)
theorem mr_aretX (X : mw_B p l s m meth c cc maxL own G (mw_A M s.heap.size)) (hT : mw_T G (mw_A M s.heap.size) s Mc H locs) {rt : FieldType} (hr : meth.sig.returnType = some rt) (hrt : (∃ n, rt = .object n) ∨ ∃ t, rt = .array t) {q : Nat} (hp : post (some (.ref q)) Mc) (hc : cells ≤ rm.cells) (hs : slots ≤ rm.slots) (hdg : decode cc pc = .ok (.areturn, 1)) : W p l e R s m args below meth c H locs cells slots (mw_EX below G M rm post px args s) (F0 m pc ls [.ref q]) := vx_ret (mr_aret X hT hr hrt hp hc hs hdg)
/-- what a callee has thrown goes on -/
theorem mr_out (X : mw_B p l s m meth c cc maxL own G (mw_A M s.heap.size)) (hexc : ∀ x ∈ c.exceptionTable.toList, False) (hT : mw_T G (mw_A M s.heap.size) s M H locs) {E : String} {ce : Cell} {q : Addr} (hcell : H[q]? = some ce) (hv : ce.vm = .none) (hcl : s.vm.findClass E = some ce.cls) (hp : px E) (hc : cells ≤ rm.cells) (hs : slots ≤ rm.slots) : vx_W p l e R s m args below meth c H locs cells slots (mw_EX below G M rm post px args s) (F0 m pc ls rest) q :=
  vx_out (fun x hx => (hexc x hx).elim) X.2.2.2.2.2.2.2.1 hcell hv hcl (fun t ht _ => ⟨hp, by rw [ht]; exact hT.1, hT.2.2.F ht⟩) hT.2.2.2.2 hc hs
/-- throw new E("text") -/
def mw_TX (own : String) (ik ic : Nat) (cls : String) (names : List String) : Prop := Bundle.fit cls = true ∧ (∀ n ∈ names, Bundle.fit n = true) ∧ Cond.classLink own ik cls ∈ lw_tbl ∧ Cond.initialized cls ∈ lw_tbl ∧ (∀ w ∈ vx_atS own ic cls names, w ∈ lw_tbl ∧ mw_ok w = true ∧ vx_ot w = true)
theorem mr_throw (X : mw_B p l s m meth c cc maxL own G (mw_A M s.heap.size)) (hexc : ∀ x ∈ c.exceptionTable.toList, False) (hT : mw_T G (mw_A M s.heap.size) s M H locs) {cls text : String} {names : List String} {ik is ic : Nat} (htx : mw_TX own ik ic cls names) (hstr : (own, is, text) ∈ mw_S) (hsize : ls.size = maxL) (hp : px cls)
    (d0 : decode cc pc = .ok (.new ik, 3)) (d3 : decode cc (pc + 3) = .ok (.dup, 1)) (d4 : decode cc (pc + 4) = .ok (.ldc is, 2)) (d6 : decode cc (pc + 6) = .ok (.invokespecial ic, 3)) (d9 : decode cc (pc + 9) = .ok (.athrow, 1))
    (hRf : names.length + 3 < R.frames) (hRl : (rest.map fun v => v.category).sum + (13 * (names.length + 1) + 43) ≤ R.locals) (hRc : cells + 1 ≤ R.cells) (hRs : slots + 6 ≤ R.slots) (hc : cells + 1 ≤ rm.cells) (hs : slots + 6 ≤ rm.slots) :
    W p l e R s m args below meth c H locs cells slots (mw_EX below G M rm post px args s) (F0 m pc ls rest) := by
  have hW := X.2.2.2.2.1.1
  obtain ⟨sa, hsa⟩ := X.2.2.2.2.1.2.2.2.1 _ hstr
  obtain ⟨g1, g2, g3, g4, g5⟩ := htx
  refine vx_throwS (names := names) X.1 X.2.1 X.2.2.2.2.2.2.2.2 X.2.2.2.1 g1 g2 (mw_use hW g3 rfl) (mw_use hW g4 rfl) hsa (fun w hw => mw_use hW (g5 w hw).1 (g5 w hw).2.1) (fun w hw => ?_) X.2.2.2.2.2.1.2.2.1 X.2.2.2.2.2.1.2.2.2 hT.2.2 (hsize.trans X.2.2.1.symm) d0 d3 d4 d6 d9 (fun x hx => (hexc x hx).elim) hRf hRl hRc hRs X.2.2.2.2.2.2.2.1 (fun t _ h1 h2 => ⟨hp, hT.1.kept (fun a ha => ?_), ?_⟩) hT.2.2.2.2 hc hs
  · rcases List.mem_cons.mp hw with rfl | hw
    · rfl
    · rcases List.mem_cons.mp hw with rfl | hw
      · rfl
      · exact (g5 w hw).2.2
  · cases hM : M a with
    | none => exact absurd hM ha
    | some e0 => exact h2 a (hT.1.lt hM)
  · exact ⟨Nat.le_trans hT.2.2.1 h1, fun q hq hn => (h2 q (Nat.lt_of_lt_of_le hq hT.2.2.1)).trans (hT.2.2.2.1 q hq hn)⟩
theorem mr_throwW (X : mw_B p l s m meth c cc maxL own G (mw_A M s.heap.size)) (hexc : ∀ x ∈ c.exceptionTable.toList, False) (hT : mw_T G (mw_A M s.heap.size) s M H locs) {cls text : String} {names : List String} {ik is ic : Nat} (htx : mw_TX own ik ic cls names) (hstr : (own, is, text) ∈ mw_S) (hsize : ls.size = maxL) (hp : px cls)
    (d0 : decode cc pc = .ok (.new ik, 3)) (d3 : decode cc (pc + 3) = .ok (.dup, 1)) (d4 : decode cc (pc + 4) = .ok (.ldc_w is, 3)) (d7 : decode cc (pc + 7) = .ok (.invokespecial ic, 3)) (d10 : decode cc (pc + 10) = .ok (.athrow, 1))
    (hRf : names.length + 3 < R.frames) (hRl : (rest.map fun v => v.category).sum + (13 * (names.length + 1) + 43) ≤ R.locals) (hRc : cells + 1 ≤ R.cells) (hRs : slots + 6 ≤ R.slots) (hc : cells + 1 ≤ rm.cells) (hs : slots + 6 ≤ rm.slots) :
    W p l e R s m args below meth c H locs cells slots (mw_EX below G M rm post px args s) (F0 m pc ls rest) := by
  have hW := X.2.2.2.2.1.1
  obtain ⟨sa, hsa⟩ := X.2.2.2.2.1.2.2.2.1 _ hstr
  obtain ⟨g1, g2, g3, g4, g5⟩ := htx
  refine vx_throwSW (names := names) X.1 X.2.1 X.2.2.2.2.2.2.2.2 X.2.2.2.1 g1 g2 (mw_use hW g3 rfl) (mw_use hW g4 rfl) hsa (fun w hw => mw_use hW (g5 w hw).1 (g5 w hw).2.1) (fun w hw => ?_) X.2.2.2.2.2.1.2.2.1 X.2.2.2.2.2.1.2.2.2 hT.2.2 (hsize.trans X.2.2.1.symm) d0 d3 d4 d7 d10 (fun x hx => (hexc x hx).elim) hRf hRl hRc hRs X.2.2.2.2.2.2.2.1 (fun t _ h1 h2 => ⟨hp, hT.1.kept (fun a ha => ?_), ?_⟩) hT.2.2.2.2 hc hs
  · rcases List.mem_cons.mp hw with rfl | hw
    · rfl
    · rcases List.mem_cons.mp hw with rfl | hw
      · rfl
      · exact (g5 w hw).2.2
  · cases hM : M a with
    | none => exact absurd hM ha
    | some e0 => exact h2 a (hT.1.lt hM)
  · exact ⟨Nat.le_trans hT.2.2.1 h1, fun q hq hn => (h2 q (Nat.lt_of_lt_of_le hq hT.2.2.1)).trans (hT.2.2.2.1 q hq hn)⟩
end MC
