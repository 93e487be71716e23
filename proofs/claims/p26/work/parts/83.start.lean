/-! a method with a table of its own that knows more of the start -/
def mw_MetV (ex : State → Prop) (l : Launch) (G : mw_G) (y : MethodName) (w : Cond) (rm : Room) (av : List Value) (M : mw_M) (post : Option Value → mw_M → Prop) : Prop := ∀ sz : Nat, vx_Met l y [w] rm (mw_PreK ex G av M sz) (mw_Qr G M sz post) (mw_Xr G M sz (fun _ => False)) rm.cells rm.slots (mw_A M sz)
theorem mw_ofV {ex : State → Prop} {l : Launch} {G : mw_G} {y : MethodName} {cc : ByteArray} {maxL : Nat} {ret : Option FieldType} {hh : List (Nat × Nat × Nat × Nat)} {rm : Room} {av : List Value} {M : mw_M} {post : Option Value → mw_M → Prop} (hfl : l.stackTraces = false) (hy : plainName y.cls = true) (hlen : (lg_sl av).length ≤ maxL)
    (body : ∀ (p : Program) (e : Env) (s : State) (m : MethodId) (below : List Frame) (meth : Method) (c : Code) (ls : Array Slot), mw_B p l s m meth c cc maxL y.cls G (mw_A M s.heap.size) → meth.name = y.name → meth.sig.returnType = ret → c.exceptionTable.toList = tableOf hh → ex s → mw_T G (mw_A M s.heap.size) s M s.heap [] → lv_has ls maxL (lv_args 0 av) →
      W p l e rm s m av.toArray below meth c s.heap [] 0 0 (mw_EX below G M rm post (fun _ => False) av.toArray s) (F0 m 0 ls [])) : mw_MetV ex l G y (.codeWith y cc maxL ret hh) rm av M post := by
  intro sz
  refine vx_ofWH (cc := cc) (maxL := maxL) (ret := ret) (hh := hh) hy rfl ?_
  intro p e s m args below meth c s₁ B hml hv
  have hsz : s.heap.size = sz := hv.1.2.1
  subst hsz
  have htab := vx_table (x := y) B (atoms_spec (ws := [Cond.codeWith y cc maxL ret hh]) B.pre _ List.mem_cons_self)
  obtain ⟨rfl, X, h1, h2, hT⟩ := mw_body hfl B hml hv.1
  have hl := lv_entry av (n := maxL) hlen
  rw [lg_entry_eq]
  exact body p e s m below meth c _ X h1 h2 htab hv.2 hT hl
section MV
variable {p : Program} {l : Launch} {e : Env} {R : Room} {s : State} {m : MethodId} {args : Array Value} {below : List Frame} {meth : Method} {c : Code} {H : Heap} {locs : List Loc} {cells slots : Nat} {Q : State → Prop}
variable {cc : ByteArray} {pc maxL : Nat} {own : String} {ls : Array Slot} {rest st0 : List Value} {A : Nat → Prop} {G : mw_G} {M Mc Mr : mw_M}
variable {y : MethodName} {bytes : ByteArray} {maxL2 index n : Nat} {ret : Option FieldType} {rm : Room} {post : Option Value → mw_M → Prop} {As : List Value}
theorem mr_runSV {ex : State → Prop} {hh : List (Nat × Nat × Nat × Nat)} (X : mw_B p l s m meth c cc maxL own G A) (hT : mw_T G A s (mw_or Mc Mr) H locs) (hx : ex_ok ex) (hex : ∀ U : State, U.heap = H → s.WarmedH U.vm → ex U) (cb : mw_CB own index y n) (hi : Cond.static y ∈ lw_tbl) (hcode : Cond.codeWith y bytes maxL2 ret hh ∈ lw_tbl) (hM : mw_MetV ex l G y (.codeWith y bytes maxL2 ret hh) rm As Mc post) (hst : st0 = As.reverse ++ rest) (hn : As.length = n) (hsize : ls.size = maxL) (hR : rm.frames + 1 ≤ R.frames ∧ 8 + (maxL2 + 11) + rm.locals ≤ R.locals) (hW : (rest.map fun v => v.category).sum ≤ 8) (hdg : decode cc pc = .ok (.invokestatic index, 3)) (hf : cells + rm.cells ≤ R.cells ∧ slots + rm.slots ≤ R.slots) :
    mw_RunX p l e R s m args below meth c G Mc H locs cells slots rm (F0 m pc ls st0) rest post (fun _ => False) := by
  have hW2 := X.2.2.2.2.1.1
  have hc : (Cond.codeWith y bytes maxL2 ret hh).before args s = true := mw_use hW2 hcode rfl
  refine ⟨_, vx_runSX (As := As) (Ts := []) (hh := hh) ⟨X.1, X.2.1, X.2.2.1, X.2.2.2.1, fun _ h => nomatch h⟩ (hM H.size) ⟨⟨rfl, rfl, hR.1, hR.2, fun w hw a' U hU => ?_, List.mem_cons_self⟩, hc, mw_use hW2 cb.1 rfl, cb.2.1, fun sig h => ?_, mw_use hW2 cb.2.2.2 rfl, mw_use hW2 hi rfl⟩ ⟨mw_PreK.blind hx, fun U hU hWU => ⟨mr_pre (av := As) X hT U hU hWU, hex U hU hWU⟩⟩ rfl hn hsize hst (lv_room hW) hdg hf⟩
  · rcases List.mem_singleton.mp hw with rfl
    exact word_at hU (Or.inl rfl) hc
  · have h2 := cb.2.2.1
    rw [h] at h2
    exact (Option.some.inj h2).symm
end MV
abbrev rm_L_isHeld : Room := { frames := 12, cells := 8238, slots := 320395, locals := 375 }
set_option maxHeartbeats 4000000 in
set_option maxRecDepth 100000 in
theorem k_isHeld {l : Launch} (hfl : l.stackTraces = false) {G : mw_G} {b0 L : Nat} {xs : Nat → Int32} (hL : L ≤ 260) : mw_MetV (ex_S b0 L xs) l G yL_isHeld (.codeWith yL_isHeld cL_isHeld 2 (some .boolean) [(0, 4, 5, 189), (0, 4, 8, 191), (0, 4, 11, 46)]) rm_L_isHeld [.ref b0] mw_nil (mw_pi (fun r M1 => r = 1)) := by
  refine mw_ofV hfl (by decide) (Nat.le_of_ble_eq_true rfl) ?_
  intro zp ze zs_ zm zb zh zc ls X hin hret htab hex hT hl
  have hl : lv_has ls 2 [(0, .ref b0)] := hl
  have hX0 := hex.2
  have hbl : b0 < zs_.heap.size := by
    obtain ⟨scr, hs, -⟩ := hX0
    exact (Array.getElem?_eq_some_iff.mp hs).1
  have hbA : ¬ mw_A mw_nil zs_.heap.size b0 := fun h => h.elim (fun h => h rfl) (fun h => absurd hbl (Nat.not_lt.mpr h))
  refine lv_aload_n X.1 X.2.1 dL_isHeld_0 rfl (lv_at hl 0 rfl) ?_
  refine mr_g X hT (fun hT' => mr_runSK X hT' (ex_S_ok b0 L xs) (ex_S_at X hT hex hbA) cb_RL_185 kw31 kw32 (As := [.ref b0]) (k_holds hfl hL) rfl rfl hl.1 ⟨Nat.le_of_ble_eq_true rfl, Nat.le_of_ble_eq_true rfl⟩ (Nat.le_of_ble_eq_true rfl) dL_isHeld_1 ⟨Nat.le_of_ble_eq_true rfl, Nat.le_of_ble_eq_true rfl⟩) (fun v M1 H locs hp hT => ?_)
  obtain ⟨r, rfl, rfl⟩ := hp
  refine W.eq (g2 := F0 zm 4 ls (.int 1 :: _)) rfl ?_
  exact mr_zretX X hT hret (by first | rfl | decide) (⟨_, rfl, rfl⟩) (Nat.le_of_ble_eq_true rfl) (Nat.le_of_ble_eq_true rfl) dL_isHeld_4
/-! THE CLAIM OUT OF ONE WALK OF THE LAW'S BODY. Your part is whole_start (and what it stands on); all else here is the same for every law, but numbers. -/
def R_law : String := "AccessGateLaw"
def lw_P (b : Addr) (xs : List Int32) (args : Array Value) (s : State) : Prop := args = #[.ref b] ∧ s.IntsAt b xs ∧ xs.length ≤ 260 ∧ (Jvm.Cond.and given_1 narrow_1).before args s = true
def lw_Q (_ : Array Value) (s : State) (o : Outcome) (t : State) : Prop := o = .returned (some (.int 1)) ∧ Framed s o t [] 600130 7301080
def lw_Z (below : List Frame) (a : Array Value) (s : State) : State → Prop := fun t => ∃ o, t.status = .running ∧ Ended t below o ∧ lw_Q a s o t
/-- the law's own end, with 1 on the stack, nothing written that was there before, its room as the claim has it -/
theorem lw_ret {p : Program} {l : Launch} {e : Env} {s : State} {m : MethodId} {below : List Frame} {meth : Method} {c : Code} {b : Nat} (hx : p.tables.exec = Jvm.exec) (hb : c.code = code) (hr : meth.sig.returnType = ret) (hlocks : meth.locks = false) {pc : Nat} {H : Heap} {ls : Array Slot} (hdg : decode code pc = .ok (.ireturn, 1)) : W p l e room_1 s m #[Value.ref b] below meth c H [] 600130 7301080 (lw_Z below #[Value.ref b] s) (F0 m pc ls [.int 1]) := by
  intro T hT X
  obtain ⟨fs, hret, hrun, hended, hW, hframe⟩ := X.leave (v := some (.int 1)) (hlocks := hlocks) (fun h => by rw [hr] at h; cases h)
  have hmeth' : T.vm.method? m = some meth := X.method'
  refine ⟨T.setFrames fs, ?_, .returned (some (.int 1)), hrun, hended, rfl, ⟨_, rfl⟩, hW, hframe⟩
  jvm_step X.here [X.here.top, hx, hb, hdg, hmeth', hr, ret, narrow_b1]
  (try refine ⟨rfl, ?_⟩); (try refine ⟨rfl, ?_⟩)
  first | (intro acts; rw [hret _ acts rfl rfl rfl]) | rw [hret _ _ rfl rfl rfl]
  exact Steps.refl _
/-- what holds at the law's entry: the machine, the code, the tables' words (any of lw_tbl by 'hts w (by decide +kernel)'), the script of L ints xs at the cell b, what the Statement gives of the start (any of its parts by flat_of_before) -/
def lw_At (p : Program) (s : State) (m : MethodId) (meth : Method) (c : Code) (b L : Nat) (xs : Nat → Int32) : Prop :=
  p.tables.exec = Jvm.exec ∧ c.code = code ∧ meth.sig.returnType = ret ∧ c.maxLocals = 1 ∧ s.vm.findClass R_law = some m.cls ∧ (∀ w ∈ lw_tbl, w.before #[Value.ref b] s = true) ∧ va_X b L xs s s.heap ∧ b < s.heap.size ∧ meth.locks = false ∧ (Jvm.Cond.and given_1 narrow_1).before #[Value.ref b] s = true

theorem law_eqi {args : Array Value} {s : State} {t : Term} {z : Int32} (h : (Cond.eq t (.int z)).before args s = true) : t.eval args s none [] s = some (.int z) := by
  cases hv : t.eval args s none [] s with
  | none => simp [Cond.before, Cond.holds, Cond.value, hv] at h
  | some w =>
    have hz : (Term.int z).eval args s none [] s = some (.int z) := rfl
    simp only [Cond.before, Cond.holds, Cond.value, hv, hz] at h
    cases w <;> simp_all
set_option maxHeartbeats 4000000 in
set_option maxRecDepth 100000 in
theorem start_S {s : State} {b : Nat} (hs : ∀ w ∈ flatC (Jvm.Cond.and given_1 narrow_1), w.before #[Value.ref b] s = true) (hts : ∀ w ∈ lw_tbl, w.before #[Value.ref b] s = true) : ∀ q ∈ mw_S, mw_Sr q s := by
  have key : ∀ (n : Nat) (tx : String), Cond.stringRef "AccessGate" n tx ∈ lw_tbl → (Cond.exactly (.string "AccessGate" n) "java/lang/String").before #[Value.ref b] s = true → mw_Sr ("AccessGate", n, tx) s := fun n tx h1 h2 => by
    obtain ⟨a, c9, cell9, k9, h3, -⟩ := Cond.exactly_spec h2
    exact ⟨a, vk_R.of (hts _ h1) h3⟩
  exact List.forall_mem_cons.mpr ⟨key 47 _ (List.mem_of_getElem? (i := 195) rfl) (hs _ (by decide +kernel)),
    List.forall_mem_cons.mpr ⟨key 58 _ (List.mem_of_getElem? (i := 235) rfl) (hs _ (by decide +kernel)),
    List.forall_mem_cons.mpr ⟨key 74 _ (List.mem_of_getElem? (i := 413) rfl) (hs _ (by decide +kernel)),
    List.forall_mem_cons.mpr ⟨key 108 _ (List.mem_of_getElem? (i := 441) rfl) (hs _ (by decide +kernel)),
    List.forall_mem_cons.mpr ⟨key 136 _ (List.mem_of_getElem? (i := 650) rfl) (hs _ (by decide +kernel)),
    List.forall_mem_cons.mpr ⟨key 171 _ (List.mem_of_getElem? (i := 618) rfl) (hs _ (by decide +kernel)),
    List.forall_mem_cons.mpr ⟨key 177 _ (List.mem_of_getElem? (i := 619) rfl) (hs _ (by decide +kernel)),
    List.forall_mem_cons.mpr ⟨key 188 _ (List.mem_of_getElem? (i := 753) rfl) (hs _ (by decide +kernel)),
    List.forall_mem_cons.mpr ⟨key 194 _ (List.mem_of_getElem? (i := 661) rfl) (hs _ (by decide +kernel)),
    List.forall_mem_cons.mpr ⟨key 203 _ (List.mem_of_getElem? (i := 727) rfl) (hs _ (by decide +kernel)),
    List.forall_mem_cons.mpr ⟨key 213 _ (List.mem_of_getElem? (i := 728) rfl) (hs _ (by decide +kernel)),
    List.forall_mem_cons.mpr ⟨key 226 _ (List.mem_of_getElem? (i := 711) rfl) (hs _ (by decide +kernel)),
    List.forall_mem_cons.mpr ⟨key 232 _ (List.mem_of_getElem? (i := 712) rfl) (hs _ (by decide +kernel)),
    List.forall_mem_cons.mpr ⟨key 240 _ (List.mem_of_getElem? (i := 443) rfl) (hs _ (by decide +kernel)),
    List.forall_mem_cons.mpr ⟨key 257 _ (List.mem_of_getElem? (i := 336) rfl) (hs _ (by decide +kernel)),
    List.forall_mem_cons.mpr ⟨key 260 _ (List.mem_of_getElem? (i := 486) rfl) (hs _ (by decide +kernel)),
    List.forall_mem_cons.mpr ⟨key 262 _ (List.mem_of_getElem? (i := 631) rfl) (hs _ (by decide +kernel)),
    List.forall_mem_cons.mpr ⟨key 264 _ (List.mem_of_getElem? (i := 617) rfl) (hs _ (by decide +kernel)),
    List.forall_mem_cons.mpr ⟨key 266 _ (List.mem_of_getElem? (i := 702) rfl) (hs _ (by decide +kernel)),
    List.forall_mem_cons.mpr ⟨key 268 _ (List.mem_of_getElem? (i := 464) rfl) (hs _ (by decide +kernel)),
    List.forall_mem_cons.mpr ⟨key 270 _ (List.mem_of_getElem? (i := 360) rfl) (hs _ (by decide +kernel)),
    List.forall_mem_cons.mpr ⟨key 272 _ (List.mem_of_getElem? (i := 526) rfl) (hs _ (by decide +kernel)),
    List.forall_mem_cons.mpr ⟨key 274 _ (List.mem_of_getElem? (i := 706) rfl) (hs _ (by decide +kernel)),
    List.forall_mem_cons.mpr ⟨key 280 _ (List.mem_of_getElem? (i := 511) rfl) (hs _ (by decide +kernel)),
    List.forall_mem_cons.mpr ⟨key 282 _ (List.mem_of_getElem? (i := 522) rfl) (hs _ (by decide +kernel)),
    List.forall_mem_cons.mpr ⟨key 284 _ (List.mem_of_getElem? (i := 636) rfl) (hs _ (by decide +kernel)),
    List.forall_mem_cons.mpr ⟨key 286 _ (List.mem_of_getElem? (i := 642) rfl) (hs _ (by decide +kernel)),
    fun _ h => absurd h List.not_mem_nil⟩⟩⟩⟩⟩⟩⟩⟩⟩⟩⟩⟩⟩⟩⟩⟩⟩⟩⟩⟩⟩⟩⟩⟩⟩⟩⟩
theorem start_W {s : State} {b : Nat} (hts : ∀ w ∈ lw_tbl, w.before #[Value.ref b] s = true) : mw_W s := by
  intro w hw hk
  have h1 := hts w hw
  unfold mw_ok at hk
  split at hk
  · exact va_Nw.of rfl h1
  · exact va_Nw.of rfl h1
  · exact va_Nw.of rfl h1
  · exact va_Nw.of rfl h1
  · exact word_at (State.WarmedH.refl s) (good_of_word hk) h1
set_option maxHeartbeats 4000000 in
set_option maxRecDepth 100000 in
theorem start_K {s : State} {b : Nat} (hs : ∀ w ∈ flatC (Jvm.Cond.and given_1 narrow_1), w.before #[Value.ref b] s = true) (hts : ∀ w ∈ lw_tbl, w.before #[Value.ref b] s = true) : ∃ G : mw_G, mw_K mw_S G s ∧ mw_Z G (fun q => s.heap.size ≤ q) s s.heap := by
  obtain ⟨c0, i0, k0⟩ := u_known (C := RJx4a65c) (T := TJx4a65c) (N := 3) (n := 3) hts uin_0 (hts _ kw42)
  obtain ⟨c1, i1, k1⟩ := u_known (C := RX0) (T := TX0) (N := 6) (n := 6) hts uin_1 (hts _ kw357)
  obtain ⟨c2, i2, k2⟩ := u_known (C := RX1) (T := TX1) (N := 4) (n := 4) hts uin_2 (hts _ kw493)
  obtain ⟨c3, i3, k3⟩ := u_known (C := RX2) (T := TX2) (N := 2) (n := 2) hts uin_3 (hts _ kw387)
  obtain ⟨c4, i4, k4⟩ := u_known (C := RX3) (T := TX3) (N := 3) (n := 3) hts uin_4 (hts _ kw216)
  obtain ⟨c5, i5, k5⟩ := u_known (C := RX4) (T := TX4) (N := 4) (n := 4) hts uin_5 (hts _ kw347)
  obtain ⟨c6, i6, k6⟩ := u_known (C := RX5) (T := TX5) (N := 6) (n := 6) hts uin_6 (hts _ kw367)
  obtain ⟨c7, i7, k7⟩ := u_known (C := RX6) (T := TX6) (N := 4) (n := 4) hts uin_7 (hts _ kw68)
  obtain ⟨c8, i8, k8⟩ := u_known (C := RX7) (T := TX7) (N := 9) (n := 9) hts uin_8 (hts _ kw34)
  obtain ⟨aI, kI, pI, hI1, hI2, hI3⟩ := Cond.arrayClass_spec (hts _ kw89)
  have hao : va_AO "java/lang/Object" s := va_AO.of (hts (Cond.arrayOver (.object "java/lang/Object")) (List.mem_of_getElem? (i := 309) rfl))
  obtain ⟨pO, aO, kO, hO1, hO2, hO3, hO4, hO5⟩ := Cond.arrayOver_spec hao
  obtain ⟨mi, hmi⟩ := va_Mi.of (hs (Cond.isRef (.mirror "[Ljava/lang/Object;")) (by decide +kernel))
  have hA : ∀ a : Nat, a < s.heap.size → ¬ (fun q => s.heap.size ≤ q) a := fun a h => Nat.not_le.mpr h
  obtain ⟨z, hz, hT⟩ := va_Tof (N := 0) (f := fun _ => Value.null) (ty := .object "java/lang/Object") (tm := .static "java/util/ArrayList" "DEFAULTCAPACITY_EMPTY_ELEMENTDATA" "[Ljava/lang/Object;") (A := fun q => s.heap.size ≤ q) (by decide) (hs _ (by decide +kernel)) (law_eqi (z := 0) (hs _ (by decide +kernel))) (fun j hj => absurd hj (Nat.not_lt_zero _)) hA
  refine ⟨((fun k => if k = 0 then c0 else if k = 1 then c1 else if k = 2 then c2 else if k = 3 then c3 else if k = 4 then c4 else if k = 5 then c5 else if k = 6 then c6 else if k = 7 then c7 else c8, fun k j => if k = 99 then mi else (if k = 0 then i0 else if k = 1 then i1 else if k = 2 then i2 else if k = 3 then i3 else if k = 4 then i4 else if k = 5 then i5 else if k = 6 then i6 else if k = 7 then i7 else i8) j), fun k => if k = 0 then aI else if k = 1 then aI else if k = 2 then aO else aI, z), ⟨start_W hts, ⟨fun k q hq => ?_, fun k q hq => ?_⟩, hao, start_S hs hts, hmi⟩, ?_, hT, ?_, ?_⟩
  · match k, hq with
    | 0, hq => cases hq; exact k0
    | 1, hq => cases hq; exact k1
    | 2, hq => cases hq; exact k2
    | 3, hq => cases hq; exact k3
    | 4, hq => cases hq; exact k4
    | 5, hq => cases hq; exact k5
    | 6, hq => cases hq; exact k6
    | 7, hq => cases hq; exact k7
    | 8, hq => cases hq; exact k8
    | k + 9, hq => simp [vwCl] at hq
  · match k, hq with
    | 0, hq => cases hq; exact ⟨fun n z => ⟨fun k h => (by cases h), kI, hI2, pI, hI3⟩, hI1⟩
    | 1, hq => cases hq; exact ⟨fun n z => ⟨fun k h => (by cases h), kI, hI2, pI, hI3⟩, hI1⟩
    | 2, hq => cases hq; exact ⟨fun n z => ⟨fun k h => (by cases h), kO, hO3, pO, hO4⟩, kO, pO, hO3, hO4, hO1, hO5⟩
    | 3, hq => cases hq; exact ⟨fun n z => ⟨fun k h => (by cases h), kI, hI2, pI, hI3⟩, hI1⟩
    | k + 4, hq => simp [mw_tys] at hq
  · exact va_Zof (hts _ (List.mem_of_getElem? (i := 81) rfl)) (hts _ kw4) hz hA
  · exact vx_Zqof (hts _ (List.mem_of_getElem? (i := 181) rfl)) (hts _ kw6) (hs _ (by decide +kernel)) hA
  · exact vx_Zqof (hts _ (List.mem_of_getElem? (i := 183) rfl)) (hts _ kw6) (hs _ (by decide +kernel)) hA
set_option maxHeartbeats 4000000 in
set_option maxRecDepth 100000 in
theorem start_N {s : State} {b : Nat} (hs : ∀ w ∈ flatC (Jvm.Cond.and given_1 narrow_1), w.before #[Value.ref b] s = true) : mw_N s :=
  List.forall_mem_cons.mpr ⟨va_Nc.of (hs _ (by decide +kernel)), List.forall_mem_cons.mpr ⟨va_Nc.of (hs _ (by decide +kernel)), List.forall_mem_cons.mpr ⟨va_Nc.of (hs _ (by decide +kernel)), fun _ h => absurd h List.not_mem_nil⟩⟩⟩
set_option maxHeartbeats 4000000 in
set_option maxRecDepth 100000 in
theorem whole_start {p : Program} {e : Env} {s : State} {m : MethodId} {below : List Frame} {meth : Method} {c : Code} (l : Launch) (hflags : l.flags = flags0) {b L : Nat} {xs : Nat → Int32} (hL : L ≤ 260) (C0 : lw_At p s m meth c b L xs) : W p l e room_1 s m #[Value.ref b] below meth c s.heap [] 0 0 (lw_Z below #[Value.ref b] s) (entryFrame m ([Value.ref b] : List Value).toArray 1) := by
  obtain ⟨hx, hb, hr, hml, hown, hts, hX, hbl, hlocks, hgv⟩ := id C0
  have hfl : l.stackTraces = false := by
    show (!l.flags.contains noTraceFlag) = false
    rw [hflags]
    decide
  have hs := flat_of_before _ hgv
  obtain ⟨G, hK, hZ⟩ := start_K hs hts
  have hN := start_N hs
  have X : mw_B p l s m meth c code 1 RL G (fun q => s.heap.size ≤ q) := ⟨hx, hb, hml, hown, hK, hZ, fun _ h => h, hlocks, hfl⟩
  have hT : mw_T G (fun q => s.heap.size ≤ q) s mw_nil s.heap [] := ⟨fun a e9 h => (by cases h), fun a h => absurd rfl h, va_S.rf⟩
  have hl := lv_entry ([.ref b]) (n := 1) (Nat.le_of_ble_eq_true rfl)
  rw [lg_entry_eq]
  generalize (lg_sl ([.ref b]) ++ List.replicate (1 - (lg_sl ([.ref b])).length) Slot.unset).toArray = ls at hl ⊢
  have hl : lv_has ls 1 [(0, .ref b)] := hl
  have hex : ex_S b L xs s := ⟨hN, hX⟩
  refine lv_aload_n X.1 X.2.1 dL_law_0 rfl (lv_at hl 0 rfl) ?_
  refine mr_gX X hT (fun hT' => mr_runSV X hT' (ex_S_ok b L xs) (ex_S_at X hT hex (Nat.not_le.mpr hbl)) cb_RL_193 kw25 kw26 (As := [.ref b]) (k_isHeld hfl hL) rfl rfl hl.1 ⟨Nat.le_of_ble_eq_true rfl, Nat.le_of_ble_eq_true rfl⟩ (Nat.le_of_ble_eq_true rfl) dL_law_1 ⟨Nat.le_of_ble_eq_true rfl, Nat.le_of_ble_eq_true rfl⟩) (fun E ce9 q9 H locs hp hT h1 h2 h3 => absurd hp id) (fun v M1 H locs hp hT => ?_)
  obtain ⟨r, rfl, rfl⟩ := hp
  refine W.eq (g2 := F0 m 4 ls [.int 1]) rfl ?_
  refine va_forget (fun q hq => hT.2.2.2.2 q hq) ?_
  refine W.widen (k := 600130) (n := 7301080) (Nat.le_of_ble_eq_true rfl) (Nat.le_of_ble_eq_true rfl) ?_
  exact lw_ret X.1 X.2.1 hr hlocks dL_law_4
set_option maxHeartbeats 4000000 in
theorem lw_walk (l : Launch) (hflags : l.flags = flags0) (b : Addr) (xs : List Int32) : MetFree l x (headSpec (Jvm.Cond.code x code maxLocals ret :: tables_1) room_1) (lw_P b xs) (fun _ _ _ _ _ => True) lw_Q := by
  refine MetFree.of_bodyS (code := code) (maxLocals := maxLocals) (ret := ret) (by decide) ?_ ?_
  · intro args s m h hn
    obtain ⟨meth, c, h1, h2, h3, h4, h5, h6, -, -⟩ := Cond.code_spec hn (atoms_spec (ws := Jvm.Cond.code x code maxLocals ret :: tables_1) h _ List.mem_cons_self)
    exact ⟨meth, c, h1, h2, h3, h4, h5, h6⟩
  · intro p e s m args below meth c s₁ B hml0 hP _
    obtain ⟨rfl, hx, hbd, hgv⟩ := hP
    obtain ⟨scr, harrAt, hlist, hof, hsmall⟩ := hx
    obtain ⟨hcb, hkn, -, -⟩ := State.arrayAt?_spec harrAt
    have hown : s.vm.findClass R_law = some m.cls := findClass_of_methodNamed B.named
    have hts0 : ∀ c ∈ (Jvm.Cond.code x code maxLocals ret :: tables_1), c.before #[Value.ref b] s = true := atoms_spec (ws := Jvm.Cond.code x code maxLocals ret :: tables_1) B.pre
    have hts : ∀ w ∈ lw_tbl, w.before #[Value.ref b] s = true := k2_hts_sels lw_privs (fun w hw => hts0 w (List.mem_cons_of_mem _ hw)) lw_privs_ok
    have hml : c.maxLocals = 1 := B.maxLocals_eq (hts0 _ List.mem_cons_self)
    have X₀ : Stand p l e room_1 s m #[Value.ref b] below meth c s₁ [] 0 0 := Stand.of_body B
    have hh0 : s₁.heap = s.heap := by rw [B.state]; rfl
    have hsz : scr.slots.size = xs.length := by rw [← Array.length_toList, hlist, List.length_map]
    have hval : ∀ j : Nat, j < xs.length → scr.slots[j]? = some (.int (xs.getD j 0)) := fun j hj => by
      rw [← Array.getElem?_toList, hlist]
      simp [hj]
    have hbl : b < s.heap.size := (Array.getElem?_eq_some_iff.mp hcb).1
    have hX : va_X b xs.length (fun j => xs.getD j 0) s s.heap := ⟨scr, hcb, hof, hkn, hsz, hval⟩
    have K : W p l e room_1 s m #[Value.ref b] below meth c s₁.heap [] 0 0 (lw_Z below #[Value.ref b] s) (entryFrame m ([Value.ref b] : List Value).toArray 1) := by
      rw [hh0]
      exact whole_start l hflags hbd ⟨B.exec, B.bytes, B.returns, hml, hown, hts, hX, hbl, B.notSynchronized, hgv⟩
    obtain ⟨t, a1, o, b1, b2, b3⟩ := K s₁ rfl X₀
    exact ⟨t, o, a1, b1, b2, b3⟩
theorem lw_pre_spec {args : Array Value} {s : State} (h : (Jvm.Cond.and given_1 narrow_1).before args s = true) (hr : rest_1_c.before args s = true) : ∃ (b : Addr) (xs : List Int32), lw_P b xs args s := by
  have hs := flat_of_before _ h
  have hq := flat_of_before _ hr
  have hc : (Cond.count 1).before args s = true := hs _ (by decide +kernel)
  have harr : (Cond.arrayOf (.arg 0) .int).before args s = true := hs _ (by decide +kernel)
  have hle : (Cond.le (.length (.arg 0)) (.int 260)).before args s = true := hs _ (by decide +kernel)
  have hlen : (Cond.isInt (.length (.arg 0))).before args s = true := hq _ (by decide +kernel)
  have hall : (Cond.all (.arg 0) (.isInt (.elem (.arg 0) (.index 0)))).before args s = true := hq _ (by decide +kernel)
  obtain ⟨b, xs, hb, hx⟩ := State.ints_of_pre rfl harr hlen hall
  have hsm : xs.length < 2 ^ 31 := hx.choose_spec.2.2.2
  have hev : (Term.length (.arg 0)).eval args s none [] s = some (.int xs.length.toInt32) := hx.length_eval hb
  have hv := Cond.le_ints hev (show (Term.int 260).eval args s none [] s = some (.int 260) from rfl)
  have hd : xs.length.toInt32 ≤ 260 := by
    simpa [Cond.before, Cond.holds, hv] using hle
  have hN : xs.length ≤ 260 := (Int32.ofNat_le_ofNat hsm (by decide)).mp (show Int32.ofNat xs.length ≤ Int32.ofNat 260 from hd)
  exact ⟨b, xs, Cond.one_arg hc (show args[0]? = some (.ref b) from hb), hx, hN, h⟩
theorem lw_comes (l : Launch) (hflags : l.flags = flags0) : Comes l x (Jvm.Cond.code x code maxLocals ret :: tables_1) room_1 (fun tb e args s => Calls_1 tb e args s ∧ rest_1 tb e args s ∧ Pre_1 tb e args s)
    (fun _ _ args s o t => lw_Q args s o t) := by
  intro p e ha hc hk s m args below hf hfit hheap happ hpre
  obtain ⟨b, xs, hP⟩ := lw_pre_spec hpre.2.2 hpre.2.1
  obtain ⟨k, o, h1, h2, h3, hQ⟩ := lw_walk l hflags b xs p e ha hc hk s m args below hf ((Spec.applies_iff_loose hf).mp happ).1 hP trivial
  exact ⟨k, o, h1, h2, h3, hQ⟩
theorem lw_frame {s t : State} {o : Outcome} {args : Array Value} (h : Framed s o t [] 600130 7301080) :
    Framed s o t (fieldLocs frame_1_writes args s ++ arrayLocs frame_1_arrays args s ++ staticLocs frame_1_statics s) 600130 7301080 := h
theorem lw_limb (L : Cond) (hL : ∀ (args : Array Value) (s t : State), L.after args s (.returned (some (.int 1))) t = true) :
    ArmFor flags0 classFile x code maxLocals ret World_1 tables_1 room_1 Calls_1 rest_1 Pre_1
      (fun tb e a s o t => postC L tb e a s o t ∧ Framed s o t (fieldLocs frame_1_writes a s ++ arrayLocs frame_1_arrays a s ++ staticLocs frame_1_statics s) 600130 7301080) := by
  intro l hflags _ _ p e ha hc hk s m args below hf hfit hheap happ hpre
  obtain ⟨k, o, h1, h2, h3, rfl, hF⟩ := lw_comes l hflags p e ha hc hk s m args below hf hfit hheap happ hpre
  exact ⟨k, _, h1, h2, h3, hL args s _, lw_frame hF⟩
theorem i_vc : Claimed_1_1 ∧ Claimed_1_2 := ⟨lw_limb limb_1_1 (fun args s t => by simp [limb_1_1, Cond.after, Cond.holds, Cond.value]), lw_limb limb_1_2 (fun args s t => Cond.after_iff.mpr (by
  first | (rw [show limb_1_2 = Cond.eq .result (.int 1) from rfl, Cond.eq_ints (x := 1) (y := 1) rfl rfl]; simp; done) | (simp [limb_1_2, Cond.value, Term.eval]; done)))⟩

