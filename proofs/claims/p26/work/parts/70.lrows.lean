/-! THE LAW'S WORLD: the class's map beside seven rows of ints (people, machines' labels, numbers, rights, asks, entries, sessions) -/
def zs (z : Nat → Nat → Int32) (k i : Nat) (v : Int32) : Nat → Nat → Int32 := va_up z k (upd (z k) i v)
theorem zs_get (z : Nat → Nat → Int32) (k i : Nat) (v : Int32) (j q : Nat) : zs z k i v j q = if j = k then (if q = i then v else z j q) else z j q := by
  unfold zs va_up
  by_cases h : j = k
  · subst h
    simp [upd]
  · simp [h]
def la_N (k : Nat) : Nat := match k with
  | 0 => 10
  | 1 => 3
  | 2 => 9
  | 3 => 63
  | _ => 60
def LArr (G : mw_G) (ad : Nat → Nat) (z : Nat → Nat → Int32) (M : mw_M) : Prop := (∀ k, k < 7 → M (ad k) = some (.inl (G.2.1 0, la_N k, .inl (z k)))) ∧ ∀ j k, j < 7 → k < 7 → ad j = ad k → j = k
def LW (G : mw_G) (o : Nat) (ad : Nat → Nat) (x : s_T) (z : Nat → Nat → Int32) (M : mw_M) : Prop := ∃ (Mx Mt : mw_M) (b : c_B) (w : c_W), M = mw_or Mx Mt ∧ mw_ds Mx Mt ∧ b 0 0 = o ∧ CA G b x w Mx ∧ c_ok (ct x 5) b x w ∧ LArr G ad z Mt
theorem mw_ds_r {M1 M2 : mw_M} (h : mw_ds M1 M2) {a : Nat} {e : va_E} (h2 : M2 a = some e) : M1 a = none := by
  cases hq : M1 a with
  | none => rfl
  | some e9 =>
    have := h a (by rw [hq]; exact fun z => by cases z)
    rw [h2] at this
    cases this
theorem mw_or_r {M1 M2 : mw_M} (h : mw_ds M1 M2) {a : Nat} {e : va_E} (h2 : M2 a = some e) : mw_or M1 M2 a = some e := by
  unfold mw_or
  rw [mw_ds_r h h2, h2]
  rfl
theorem LArr.set {G : mw_G} {ad : Nat → Nat} {z : Nat → Nat → Int32} {M : mw_M} (h : LArr G ad z M) {k : Nat} (hk : k < 7) (i : Nat) (v : Int32) : LArr G ad (zs z k i v) (va_up M (ad k) (some (.inl (G.2.1 0, la_N k, .inl (upd (z k) i v))))) := by
  refine ⟨fun j hj => ?_, h.2⟩
  by_cases hjk : j = k
  · subst hjk
    rw [va_up_self]
    have e : zs z j i v j = upd (z j) i v := va_up_self _ _ _
    rw [e]
  · rw [va_up_ne _ _ (fun q => hjk (h.2 j k hj hk q)), h.1 j hj]
    have e : zs z k i v j = z j := va_up_ne _ _ hjk
    rw [e]
section ML
variable {p : Program} {l : Launch} {e : Env} {R : Room} {s : State} {m : MethodId} {args : Array Value} {below : List Frame} {meth : Method} {c : Code} {H : Heap} {locs : List Loc} {cells slots : Nat} {Q : State → Prop}
variable {cc : ByteArray} {pc maxL : Nat} {own : String} {ls : Array Slot} {rest : List Value} {A : Nat → Prop} {G : mw_G} {M : mw_M} {o : Nat} {ad : Nat → Nat} {x : s_T} {z : Nat → Nat → Int32}
theorem LW.arr (hM : LW G o ad x z M) {k : Nat} (hk : k < 7) : M (ad k) = some (.inl (G.2.1 0, la_N k, .inl (z k))) := by
  obtain ⟨Mx, Mt, b, w, rfl, hds, rfl, hA, ho, hL⟩ := hM
  exact mw_or_r hds (hL.1 k hk)
theorem LW.set (hM : LW G o ad x z M) {k : Nat} (hk : k < 7) (i : Nat) (v : Int32) : LW G o ad x (zs z k i v) (va_up M (ad k) (some (.inl (G.2.1 0, la_N k, .inl (upd (z k) i v))))) := by
  obtain ⟨Mx, Mt, b, w, rfl, hds, rfl, hA, ho, hL⟩ := hM
  have hn := mw_ds_r hds (hL.1 k hk)
  refine ⟨Mx, _, b, w, ?_, fun a ha => ?_, rfl, hA, ho, hL.set hk i v⟩
  · funext a
    by_cases ha : a = ad k
    · subst ha
      rw [va_up_self]
      unfold mw_or
      rw [hn, va_up_self]
      rfl
    · rw [va_up_ne _ _ ha]
      unfold mw_or
      rw [va_up_ne _ _ ha]
  · rw [va_up_ne _ _ (fun q : a = ad k => ha (q ▸ hn))]
    exact hds a ha
/-- a row of the law read at a place -/
theorem ml_ald (X : mw_B p l s m meth c cc maxL own G A) (hT : mw_T G A s M H locs) (hM : LW G o ad x z M) {k j : Nat} (hk : k < 7) (hj : j < la_N k) (hdg : decode cc pc = .ok (.iaload, 1))
    (kk : W p l e R s m args below meth c H locs cells slots Q (F0 m (pc + 1) ls (.int (z k j) :: rest))) : W p l e R s m args below meth c H locs cells slots Q (F0 m pc ls (.int (nI j) :: .ref (ad k) :: rest)) := by
  have h63 : la_N k ≤ 63 := by
    unfold la_N
    split <;> decide
  refine mr_iald X hT (hM.arr hk) (vp_in_nI hj (by omega)) hdg ?_
  rw [nI_clamp (by omega)]
  exact kk
/-- written -/
theorem ml_ast (X : mw_B p l s m meth c cc maxL own G A) (hT : mw_T G A s M H locs) (hM : LW G o ad x z M) {k j : Nat} (hk : k < 7) (hj : j < la_N k) {v : Int32} (hdg : decode cc pc = .ok (.iastore, 1))
    (kk : ∀ (M1 : mw_M) (H1 : Heap) (locs1 : List Loc), LW G o ad x (zs z k j v) M1 → mw_T G A s M1 H1 locs1 → W p l e R s m args below meth c H1 locs1 cells slots Q (F0 m (pc + 1) ls rest)) : W p l e R s m args below meth c H locs cells slots Q (F0 m pc ls (.int v :: .int (nI j) :: .ref (ad k) :: rest)) := by
  have h63 : la_N k ≤ 63 := by
    unfold la_N
    split <;> decide
  refine mr_iast X hT (hM.arr hk) (vp_in_nI hj (by omega)) hdg (fun H1 locs1 hT1 => ?_)
  rw [nI_clamp (by omega)] at hT1
  exact kk _ H1 locs1 (hM.set hk j v) hT1
/-- a loop whose room grows -/
theorem mw_loopC {st : List Value} {pcH nL n : Nat} (P : Nat → mw_M → Prop) (LV : Nat → List (Nat × Value)) (C S : Nat → Nat)
    (step : ∀ k : Nat, k ≤ n → (k < n → ∀ (M1 : mw_M) (H1 : Heap) (locs1 : List Loc) (ls1 : Array Slot), P (k + 1) M1 → mw_T G A s M1 H1 locs1 → lv_has ls1 nL (LV (k + 1)) → W p l e R s m args below meth c H1 locs1 (C (k + 1)) (S (k + 1)) Q (F0 m pcH ls1 st)) →
      ∀ (M1 : mw_M) (H1 : Heap) (locs1 : List Loc) (ls1 : Array Slot), P k M1 → mw_T G A s M1 H1 locs1 → lv_has ls1 nL (LV k) → W p l e R s m args below meth c H1 locs1 (C k) (S k) Q (F0 m pcH ls1 st))
    (h0 : P 0 M) (hT : mw_T G A s M H locs) (hl : lv_has ls nL (LV 0)) : W p l e R s m args below meth c H locs (C 0) (S 0) Q (F0 m pcH ls st) := by
  have key : ∀ (d k : Nat), k ≤ n → n - k = d → ∀ (M1 : mw_M) (H1 : Heap) (locs1 : List Loc) (ls1 : Array Slot), P k M1 → mw_T G A s M1 H1 locs1 → lv_has ls1 nL (LV k) → W p l e R s m args below meth c H1 locs1 (C k) (S k) Q (F0 m pcH ls1 st) := by
    intro d
    induction d with
    | zero => intro k hk hd; exact step k hk (fun h => absurd h (by omega))
    | succ d ih => intro k hk hd; exact step k hk (fun h => ih (k + 1) h (by omega))
  exact key (n - 0) 0 (Nat.zero_le _) rfl M H locs ls h0 hT hl
end ML
/-! contracts that know something more of the start -/
def mw_PreK (ex : State → Prop) (G : mw_G) (av : List Value) (M : mw_M) (sz : Nat) : Array Value → State → Prop := fun a U => mw_Pre G av M sz a U ∧ ex U
def ex_ok (ex : State → Prop) : Prop := ∀ (U : State) (g : JFrame) (mk : MethodId) (a : Array Value), ex U → ex (U.calling g mk a)
theorem mw_PreK.blind {ex : State → Prop} {G : mw_G} {av : List Value} {M : mw_M} {sz : Nat} (hx : ex_ok ex) : FrameBlind (mw_PreK ex G av M sz) := by
  intro a U g mk ⟨h1, h2⟩
  exact ⟨mw_Pre.blind a U g mk h1, hx U g mk a h2⟩
def mw_MetK (ex : State → Prop) (l : Launch) (G : mw_G) (y : MethodName) (w : Cond) (rm : Room) (av : List Value) (M : mw_M) (post : Option Value → mw_M → Prop) : Prop := ∀ sz : Nat, Met l y [w] rm (mw_PreK ex G av M sz) (mw_Qr G M sz post) rm.cells rm.slots (mw_A M sz)
theorem mw_ofK {ex : State → Prop} {l : Launch} {G : mw_G} {y : MethodName} {cc : ByteArray} {maxL : Nat} {ret : Option FieldType} {rm : Room} {av : List Value} {M : mw_M} {post : Option Value → mw_M → Prop} (hfl : l.stackTraces = false) (hy : plainName y.cls = true) (hlen : (lg_sl av).length ≤ maxL)
    (body : ∀ (p : Program) (e : Env) (s : State) (m : MethodId) (below : List Frame) (meth : Method) (c : Code) (ls : Array Slot), mw_B p l s m meth c cc maxL y.cls G (mw_A M s.heap.size) → meth.name = y.name → meth.sig.returnType = ret → ex s → mw_T G (mw_A M s.heap.size) s M s.heap [] → lv_has ls maxL (lv_args 0 av) →
      W p l e rm s m av.toArray below meth c s.heap [] 0 0 (mw_E below G M rm post av.toArray s) (F0 m 0 ls [])) : mw_MetK ex l G y (.code y cc maxL ret) rm av M post := by
  intro sz
  refine Met.ofW (cc := cc) (maxL := maxL) (ret := ret) hy rfl ?_
  intro p e s m args below meth c s₁ B hml hv
  have hsz : s.heap.size = sz := hv.1.2.1
  subst hsz
  obtain ⟨rfl, X, h1, h2, hT⟩ := mw_body hfl B hml hv.1
  have hl := lv_entry av (n := maxL) hlen
  rw [lg_entry_eq]
  exact body p e s m below meth c _ X h1 h2 hv.2 hT hl
/-- what the law's methods know of the script: where it lies, that nobody writes it -/
def ex_N : State → Prop := mw_N
theorem ex_N_ok : ex_ok ex_N := fun U _ _ _ h => mw_N.warm (s := U) (State.WarmedH.refl U) h
def ex_S (b0 L : Nat) (xs : Nat → Int32) : State → Prop := fun U => mw_N U ∧ va_X b0 L xs U U.heap
theorem ex_S_ok (b0 L : Nat) (xs : Nat → Int32) : ex_ok (ex_S b0 L xs) := fun U _ _ _ h => ⟨mw_N.warm (s := U) (State.WarmedH.refl U) h.1, h.2.moved (u := U) (Vm.Alike.refl U.vm)⟩
section MK
variable {p : Program} {l : Launch} {e : Env} {R : Room} {s : State} {m : MethodId} {args : Array Value} {below : List Frame} {meth : Method} {c : Code} {H : Heap} {locs : List Loc} {cells slots : Nat} {Q : State → Prop}
variable {cc : ByteArray} {pc maxL : Nat} {own : String} {ls : Array Slot} {rest st0 : List Value} {A : Nat → Prop} {G : mw_G} {M Mc Mr : mw_M}
variable {y : MethodName} {bytes : ByteArray} {maxL2 index n : Nat} {ret : Option FieldType} {rm : Room} {post : Option Value → mw_M → Prop} {px : String → Prop} {av : List Value}
variable {b : Nat} {As : List Value} {C : String}
theorem mr_runSK {ex : State → Prop} (X : mw_B p l s m meth c cc maxL own G A) (hT : mw_T G A s (mw_or Mc Mr) H locs) (hx : ex_ok ex) (hex : ∀ U : State, U.heap = H → s.WarmedH U.vm → ex U) (cb : mw_CB own index y n) (hi : Cond.static y ∈ lw_tbl) (hcode : Cond.code y bytes maxL2 ret ∈ lw_tbl) (hM : mw_MetK ex l G y (.code y bytes maxL2 ret) rm As Mc post) (hst : st0 = As.reverse ++ rest) (hn : As.length = n) (hsize : ls.size = maxL) (hR : rm.frames + 1 ≤ R.frames ∧ 8 + (maxL2 + 11) + rm.locals ≤ R.locals) (hW : (rest.map fun v => v.category).sum ≤ 8) (hdg : decode cc pc = .ok (.invokestatic index, 3)) (hf : cells + rm.cells ≤ R.cells ∧ slots + rm.slots ≤ R.slots) :
    mw_Run p l e R s m args below meth c G Mc H locs cells slots rm (F0 m pc ls st0) rest post :=
  ⟨_, va_runS (As := As) (Ts := []) ⟨X.1, X.2.1, X.2.2.1, X.2.2.2.1, fun _ h => nomatch h⟩ (hM H.size) ⟨mr_cb X cb hcode hR, mw_use X.2.2.2.2.1.1 hi rfl⟩ ⟨mw_PreK.blind hx, fun U hU hWU => ⟨mr_pre (av := As) X hT U hU hWU, hex U hU hWU⟩⟩ rfl hn hsize hst (lv_room hW) hdg hf⟩
theorem ex_N_at (h : ex_N s) : ∀ U : State, U.heap = H → s.WarmedH U.vm → ex_N U := fun _ _ hW => mw_N.warm hW h
theorem ex_S_at {b0 L : Nat} {xs : Nat → Int32} (X : mw_B p l s m meth c cc maxL own G A) (hT : mw_T G A s M H locs) (h : ex_S b0 L xs s) (hA : ¬ A b0) : ∀ U : State, U.heap = H → s.WarmedH U.vm → ex_S b0 L xs U := fun U hU hW => by
  obtain ⟨h1, h2⟩ := h
  have hb : b0 < s.heap.size := by
    obtain ⟨scr, hs, -⟩ := h2
    exact (Array.getElem?_eq_some_iff.mp hs).1
  have h3 : va_X b0 L xs s H := h2.kept (hT.2.2.2.1 b0 hb hA)
  have h4 := h3.moved (U := U) hW.alike
  refine ⟨h1.warm hW, ?_⟩
  rw [hU]
  exact h4
end MK
