/-! THE CLAIM OUT OF ONE WALK OF THE LAW'S BODY. Your part is whole_start (and what it stands on); all else here is the same for every law, but numbers. -/
def R_law : String := "AccessGateLaw"
def lw_P (b : Addr) (xs : List Int32) (args : Array Value) (s : State) : Prop := args = #[.ref b] ∧ s.IntsAt b xs ∧ xs.length ≤ 2048 ∧ (Jvm.Cond.and given_1 narrow_1).before args s = true
def lw_Q (_ : Array Value) (s : State) (o : Outcome) (t : State) : Prop := o = .returned (some (.int 1)) ∧ Framed s o t [] 601024 7293034
def lw_Z (below : List Frame) (a : Array Value) (s : State) : State → Prop := fun t => ∃ o, t.status = .running ∧ Ended t below o ∧ lw_Q a s o t
/-- the law's own end, with 1 on the stack, nothing written that was there before, its room as the claim has it -/
theorem lw_ret {p : Program} {l : Launch} {e : Env} {s : State} {m : MethodId} {below : List Frame} {meth : Method} {c : Code} {b : Nat} (hx : p.tables.exec = Jvm.exec) (hb : c.code = code) (hr : meth.sig.returnType = ret) (hlocks : meth.locks = false) {pc : Nat} {H : Heap} {ls : Array Slot} (hdg : decode code pc = .ok (.ireturn, 1)) : W p l e room_1 s m #[Value.ref b] below meth c H [] 601024 7293034 (lw_Z below #[Value.ref b] s) (F0 m pc ls [.int 1]) := by
  intro T hT X
  obtain ⟨fs, hret, hrun, hended, hW, hframe⟩ := X.leave (v := some (.int 1)) (hlocks := hlocks) (fun h => by rw [hr] at h; cases h)
  have hmeth' : T.vm.method? m = some meth := X.method'
  refine ⟨T.setFrames fs, ?_, .returned (some (.int 1)), hrun, hended, rfl, ⟨_, rfl⟩, hW, hframe⟩
  jvm_step X.here [X.here.top, hx, hb, hdg, hmeth', hr, ret, narrow_b1]
  (try refine ⟨rfl, ?_⟩); (try refine ⟨rfl, ?_⟩)
  first | (intro acts; rw [hret _ acts rfl rfl rfl]) | rw [hret _ _ rfl rfl rfl]
  exact Steps.refl _
/-- what holds at the law's entry: the machine, the code, the tables' words (any of lw_tbl by 'hts w (by decide +kernel)'), the script of L ints xs at the cell b, what the Statement gives of the start (any of its parts by flat_of_before) -/
def lw_At (p : Program) (s : State) (m : MethodId) (meth : Method) (c : Code) (b L : Nat) (xs : Nat → Int32) : Prop :=
  p.tables.exec = Jvm.exec ∧ c.code = code ∧ meth.sig.returnType = ret ∧ c.maxLocals = 7 ∧ s.vm.findClass R_law = some m.cls ∧ (∀ w ∈ lw_tbl, w.before #[Value.ref b] s = true) ∧ va_X b L xs s s.heap ∧ b < s.heap.size ∧ meth.locks = false ∧ (Jvm.Cond.and given_1 narrow_1).before #[Value.ref b] s = true
/-! the law's loop, a call a turn -/
theorem mw_ds_comm {M1 M2 : mw_M} (h : mw_ds M1 M2) : mw_ds M2 M1 := fun a ha => by
  cases hq : M1 a with
  | none => rfl
  | some e9 => exact absurd (h a (by rw [hq]; exact fun z => by cases z)) ha
theorem mw_or_comm {M1 M2 : mw_M} (h : mw_ds M1 M2) : mw_or M1 M2 = mw_or M2 M1 := by
  funext a
  unfold mw_or
  cases h1 : M1 a with
  | none => cases M2 a <;> rfl
  | some e9 =>
    rw [h a (by rw [h1]; exact fun z => by cases z)]
    rfl
theorem mw_or_assoc {M1 M2 M3 : mw_M} : mw_or (mw_or M1 M2) M3 = mw_or M1 (mw_or M2 M3) := by
  funext a
  unfold mw_or
  cases M1 a <;> rfl
theorem law_ds {M1 M2 M3 : mw_M} (h : mw_ds M1 M2) (h2 : mw_ds (mw_or M1 M2) M3) : mw_ds M1 (mw_or M2 M3) := fun a ha => by
  have e2 := h a ha
  have e3 := h2 a (by
    unfold mw_or
    cases hq : M1 a with
    | none => exact absurd hq ha
    | some e9 => exact fun z => by cases z)
  unfold mw_or
  rw [e2, e3]
  rfl
theorem law_o {G : mw_G} {Mt Mx : mw_M} {o : Nat} {f : Nat → Int64} (h : mw_ds Mt (mw_or Mx (mo G o f))) (hd : mw_ds Mx (mo G o f)) : mw_or Mt (mw_or Mx (mo G o f)) o = some (.inl (G.2.1 3, 1, .inr (.inl f))) := by
  have h1 := mo_at hd
  have h2 : Mt o = none := by
    cases hq : Mt o with
    | none => rfl
    | some e9 =>
      have := h o (by rw [hq]; exact fun z => by cases z)
      rw [h1] at this
      cases this
  unfold mw_or at h1 ⊢
  rw [h2]
  exact h1
theorem law_0 : (0 : Int32).toNatClampNeg = 0 := by decide
theorem law_cmp {u v : Int64} (h : u = v) : lg_cmp u v = 0 := by
  subst h
  simp [lg_cmp]
theorem law_q {c : Int32} {k : Nat} {x y : s_T} (h : c = 0 → q_ok (k + 1) y) (hq : q_ok k x) : q_ok (k + 1) (if c = 0 then y else x) := by
  by_cases hc : c = 0
  · rw [if_pos hc]; exact h hc
  · rw [if_neg hc]; exact st_same hq
/-- what holds at the head of a turn: k calls are made -/
def law_I (G : mw_G) (s : State) (b0 gx hm o : Nat) (ad : Nat → Nat) (k i4 : Nat) (H : Heap) (locs : List Loc) (ls : Array Slot) (cells slots : Nat) : Prop :=
  ∃ (b : c_B) (x : s_T) (w : c_W) (lst : Int32) (Mx Mt : mw_M) (f : Nat → Int64), b 0 0 = gx ∧ CA G b x w Mx ∧ c_ok (ct x 5) b x w ∧ q_ok k x ∧ MA G hm ad x lst Mt ∧ mw_ds Mx (mo G o f) ∧ mw_ds (mw_or Mx (mo G o f)) Mt ∧ mw_T G (fun q => s.heap.size ≤ q) s (mw_or (mw_or Mx (mo G o f)) Mt) H locs ∧ lv_has ls 7 [(4, .int (nI i4)), (0, .ref b0), (1, .ref gx), (2, .ref hm), (3, .ref o)] ∧ cells ≤ 100 + 20 * k ∧ slots ≤ 100000 + 3000 * k
set_option maxHeartbeats 4000000 in
set_option maxRecDepth 100000 in
theorem law_c0 {p : Program} {l : Launch} {e : Env} {s : State} {m : MethodId} {below : List Frame} {meth : Method} {c : Code} {G : mw_G} (hfl : l.stackTraces = false) (X : mw_B p l s m meth c code 7 RL G (fun q => s.heap.size ≤ q)) (hN : mw_N s) {b0 L : Nat} {xs : Nat → Int32} (hX : va_X b0 L xs s s.heap) (hbl : b0 < s.heap.size) {gx hm o : Nat} {ad : Nat → Nat} {k : Nat} {H : Heap} {locs : List Loc} {ls : Array Slot} {cells slots : Nat} (hk : k ≤ 511) (hkL : 4 * k + 4 ≤ L) (hL : L ≤ 2048) (hI : law_I G s b0 gx hm o ad k (4 * k) H locs ls cells slots) (nx : ∀ (H : Heap) (locs : List Loc) (ls : Array Slot) (cells slots : Nat), law_I G s b0 gx hm o ad (k + 1) (4 * k) H locs ls cells slots → W p l e room_1 s m #[Value.ref b0] below meth c H locs cells slots (lw_Z below #[Value.ref b0] s) (F0 m 1495 ls [])) : W p l e room_1 s m #[Value.ref b0] below meth c H locs cells slots (lw_Z below #[Value.ref b0] s) (F0 m 144 ls []) := by
  obtain ⟨b, x, w, lst, Mx, Mt, f, rfl, hA, ho, hq, hM, hd, hds, hT, hl, hce, hsl⟩ := hI
  have hbA : ¬ (fun q => s.heap.size ≤ q) b0 := Nat.not_le.mpr hbl
  have hi := q_inv_mono hq.1 hk
  refine lv_aload_n X.1 X.2.1 dL_law_144 rfl (lv_at hl 2 rfl) ?_
  refine lv_aload_n X.1 X.2.1 dL_law_145 rfl (lv_at hl 1 rfl) ?_
  refine lv_iload X.1 X.2.1 dL_law_146 (lv_at hl 0 rfl) ?_
  refine lv_iconst X.1 X.2.1 (v := 1) dL_law_148 (by decide) ?_
  refine lv_iadd X.1 X.2.1 dL_law_149 ?_
  refine mm_top (w := nI (4 * k + 1)) (nI_add _ 1) ?_
  refine va_sld X.1 X.2.1 hX hbl hbA hT.2.2 (vp_in_nI (n := 4 * k + 1) (by omega) (by omega)) dL_law_150 ?_
  refine mm_top (w := xs (4 * k + 1)) (by rw [nI_clamp (by omega)]) ?_
  refine lv_aload_n X.1 X.2.1 dL_law_151 rfl (lv_at hl 4 rfl) ?_
  refine mr_goX X hT hds (mr_runSN X hN hT cb_RL_87 kw123 kw124 (l_addPerson hfl hA ho hi hd hq.2) rfl rfl hl.1 ⟨Nat.le_of_ble_eq_true rfl, Nat.le_of_ble_eq_true rfl⟩ (Nat.le_of_ble_eq_true rfl) dL_law_152 ⟨by show cells + 3 ≤ 601024; omega, by show slots + 1309 ≤ 7293034; omega⟩) (fun E ce9 q9 H locs hp hT h1 h2 h3 => absurd hp id) (fun v M1 H locs hp hds hT => ?_)
  obtain ⟨r, rfl, Mx1, f1, rfl, rfl, hd1, ⟨b1, e00, w1, hA1, ho1⟩, han⟩ := hp
  refine W.eq (g2 := F0 m 155 ls (.int _ :: _)) rfl ?_
  rw [mw_or_comm hds] at hT
  have hds := mw_ds_comm hds
  refine lv_istore X.1 X.2.1 dL_law_155 hl (by decide) rfl (fun ls hl => ?_)
  refine lv_aload_n X.1 X.2.1 dL_law_157 rfl (lv_at hl 4 rfl) ?_
  refine lv_aload_n X.1 X.2.1 dL_law_158 rfl (lv_at hl 2 rfl) ?_
  refine lv_iload X.1 X.2.1 dL_law_159 (lv_at hl 1 rfl) ?_
  refine lv_iconst X.1 X.2.1 (v := 1) dL_law_161 (by decide) ?_
  refine lv_iadd X.1 X.2.1 dL_law_162 ?_
  refine mm_top (w := nI (4 * k + 1)) (nI_add _ 1) ?_
  refine va_sld X.1 X.2.1 hX hbl hbA hT.2.2 (vp_in_nI (n := 4 * k + 1) (by omega) (by omega)) dL_law_163 ?_
  refine mm_top (w := xs (4 * k + 1)) (by rw [nI_clamp (by omega)]) ?_
  refine mr_go X hT hds (mr_runV X hT cb_RL_92 kw826 kw827 kw828 (m_addPerson hfl hM hi) (mr_cell X hT (mw_or_l hM.1) rfl) rfl rfl hl.1 ⟨Nat.le_of_ble_eq_true rfl, Nat.le_of_ble_eq_true rfl⟩ (Nat.le_of_ble_eq_true rfl) dL_law_164 ⟨by show cells + 3 + 0 ≤ 601024; omega, by show slots + 1309 + 0 ≤ 7293034; omega⟩) (fun v Mt H locs hp hds hT => ?_)
  obtain ⟨r2, rfl, hans, hM⟩ := hp
  refine W.eq (g2 := F0 m 167 ls (.int _ :: _)) rfl ?_
  refine lv_istore X.1 X.2.1 dL_law_167 hl (by decide) rfl (fun ls hl => ?_)
  refine lv_aload_n X.1 X.2.1 dL_law_169 rfl (lv_at hl 5 rfl) ?_
  refine mr_go X hT hds (mr_runV X hT cb_RL_93 kw822 kw823 kw824 (m_thrown hfl hM) (mr_cell X hT (mw_or_l hM.1) rfl) rfl rfl hl.1 ⟨Nat.le_of_ble_eq_true rfl, Nat.le_of_ble_eq_true rfl⟩ (Nat.le_of_ble_eq_true rfl) dL_law_170 ⟨by show cells + 3 + 0 + 0 ≤ 601024; omega, by show slots + 1309 + 0 + 0 ≤ 7293034; omega⟩) (fun v Mt H locs hp hds hT => ?_)
  obtain ⟨r3, rfl, rfl, hM⟩ := hp
  refine W.eq (g2 := F0 m 173 ls (.int _ :: _)) rfl ?_
  refine lv_iload X.1 X.2.1 dL_law_173 (lv_at hl 1 rfl) ?_
  refine lv_icmp_eq X.1 X.2.1 (tgt := 180) dL_law_175 (by decide) (fun c175 => ?_) (fun c175 => absurd rfl c175)
  refine lv_iload X.1 X.2.1 dL_law_180 (lv_at hl 1 rfl) ?_
  refine lv_if_ne X.1 X.2.1 (tgt := 197) dL_law_182 (by decide) (fun c2 => ?_) (fun c2 => ?_)
  · skip
    refine lv_goto X.1 X.2.1 (tgt := 1495) dL_law_197 (by decide) ?_
    refine nx _ _ _ _ _ ?_
    exact ⟨b1, _, w1, _, Mx1, Mt, f1, e00, hA1, ho1, law_q (fun hc => st_addPerson hq hc) hq, hM, hd1, mw_ds_comm hds, by rw [mw_or_comm hds] at hT; exact hT, lv_sub hl [2, 3, 4, 5, 6] rfl, by show cells + 3 + 0 + 0 ≤ 100 + 20 * (k + 1); omega, by show slots + 1309 + 0 + 0 ≤ 100000 + 3000 * (k + 1); omega⟩
  · skip
    refine lv_aload_n X.1 X.2.1 dL_law_185 rfl (lv_at hl 6 rfl) ?_
    refine lv_iconst X.1 X.2.1 (v := 0) dL_law_186 (by decide) ?_
    refine mr_lald X hT (law_o hds hd1) (vp_in_nI (n := 0) (show 0 < 1 by decide) (by decide)) dL_law_187 ?_
    refine lv_iload X.1 X.2.1 dL_law_188 (lv_at hl 0 rfl) ?_
    refine lv_i2l X.1 X.2.1 dL_law_190 rfl ?_
    refine W.lcmp X.1 X.2.1 dL_law_191 ?_
    refine lv_if_eq X.1 X.2.1 (tgt := 197) dL_law_192 (by decide) (fun c3 => ?_) (fun c3 => absurd (law_cmp ((congrArg f1 law_0).trans (by rw [han c2, hans c2]))) c3)
    refine lv_goto X.1 X.2.1 (tgt := 1495) dL_law_197 (by decide) ?_
    refine nx _ _ _ _ _ ?_
    exact ⟨b1, _, w1, _, Mx1, Mt, f1, e00, hA1, ho1, law_q (fun hc => st_addPerson hq hc) hq, hM, hd1, mw_ds_comm hds, by rw [mw_or_comm hds] at hT; exact hT, lv_sub hl [2, 3, 4, 5, 6] rfl, by show cells + 3 + 0 + 0 ≤ 100 + 20 * (k + 1); omega, by show slots + 1309 + 0 + 0 ≤ 100000 + 3000 * (k + 1); omega⟩

set_option maxHeartbeats 4000000 in
set_option maxRecDepth 100000 in
theorem law_c1 {p : Program} {l : Launch} {e : Env} {s : State} {m : MethodId} {below : List Frame} {meth : Method} {c : Code} {G : mw_G} (hfl : l.stackTraces = false) (X : mw_B p l s m meth c code 7 RL G (fun q => s.heap.size ≤ q)) (hN : mw_N s) {b0 L : Nat} {xs : Nat → Int32} (hX : va_X b0 L xs s s.heap) (hbl : b0 < s.heap.size) {gx hm o : Nat} {ad : Nat → Nat} {k : Nat} {H : Heap} {locs : List Loc} {ls : Array Slot} {cells slots : Nat} (hk : k ≤ 511) (hkL : 4 * k + 4 ≤ L) (hL : L ≤ 2048) (hI : law_I G s b0 gx hm o ad k (4 * k) H locs ls cells slots) (nx : ∀ (H : Heap) (locs : List Loc) (ls : Array Slot) (cells slots : Nat), law_I G s b0 gx hm o ad (k + 1) (4 * k) H locs ls cells slots → W p l e room_1 s m #[Value.ref b0] below meth c H locs cells slots (lw_Z below #[Value.ref b0] s) (F0 m 1495 ls [])) : W p l e room_1 s m #[Value.ref b0] below meth c H locs cells slots (lw_Z below #[Value.ref b0] s) (F0 m 200 ls []) := by
  obtain ⟨b, x, w, lst, Mx, Mt, f, rfl, hA, ho, hq, hM, hd, hds, hT, hl, hce, hsl⟩ := hI
  have hbA : ¬ (fun q => s.heap.size ≤ q) b0 := Nat.not_le.mpr hbl
  have hi := q_inv_mono hq.1 hk
  refine lv_aload_n X.1 X.2.1 dL_law_200 rfl (lv_at hl 2 rfl) ?_
  refine lv_aload_n X.1 X.2.1 dL_law_201 rfl (lv_at hl 1 rfl) ?_
  refine lv_iload X.1 X.2.1 dL_law_202 (lv_at hl 0 rfl) ?_
  refine lv_iconst X.1 X.2.1 (v := 1) dL_law_204 (by decide) ?_
  refine lv_iadd X.1 X.2.1 dL_law_205 ?_
  refine mm_top (w := nI (4 * k + 1)) (nI_add _ 1) ?_
  refine va_sld X.1 X.2.1 hX hbl hbA hT.2.2 (vp_in_nI (n := 4 * k + 1) (by omega) (by omega)) dL_law_206 ?_
  refine mm_top (w := xs (4 * k + 1)) (by rw [nI_clamp (by omega)]) ?_
  refine lv_aload_n X.1 X.2.1 dL_law_207 rfl (lv_at hl 4 rfl) ?_
  refine mr_goX X hT hds (mr_runSN X hN hT cb_RL_97 kw298 kw299 (l_addMachine hfl hA ho hi hd) rfl rfl hl.1 ⟨Nat.le_of_ble_eq_true rfl, Nat.le_of_ble_eq_true rfl⟩ (Nat.le_of_ble_eq_true rfl) dL_law_208 ⟨by show cells + 4 ≤ 601024; omega, by show slots + 1314 ≤ 7293034; omega⟩) (fun E ce9 q9 H locs hp hT h1 h2 h3 => absurd hp id) (fun v M1 H locs hp hds hT => ?_)
  obtain ⟨r, rfl, Mx1, f1, rfl, rfl, hd1, ⟨b1, e00, w1, hA1, ho1⟩, han⟩ := hp
  refine W.eq (g2 := F0 m 211 ls (.int _ :: _)) rfl ?_
  rw [mw_or_comm hds] at hT
  have hds := mw_ds_comm hds
  refine lv_istore X.1 X.2.1 dL_law_211 hl (by decide) rfl (fun ls hl => ?_)
  refine lv_aload_n X.1 X.2.1 dL_law_213 rfl (lv_at hl 4 rfl) ?_
  refine lv_aload_n X.1 X.2.1 dL_law_214 rfl (lv_at hl 2 rfl) ?_
  refine lv_iload X.1 X.2.1 dL_law_215 (lv_at hl 1 rfl) ?_
  refine lv_iconst X.1 X.2.1 (v := 1) dL_law_217 (by decide) ?_
  refine lv_iadd X.1 X.2.1 dL_law_218 ?_
  refine mm_top (w := nI (4 * k + 1)) (nI_add _ 1) ?_
  refine va_sld X.1 X.2.1 hX hbl hbA hT.2.2 (vp_in_nI (n := 4 * k + 1) (by omega) (by omega)) dL_law_219 ?_
  refine mm_top (w := xs (4 * k + 1)) (by rw [nI_clamp (by omega)]) ?_
  refine mr_go X hT hds (mr_runV X hT cb_RL_99 kw837 kw838 kw839 (m_addMachine hfl hM hi) (mr_cell X hT (mw_or_l hM.1) rfl) rfl rfl hl.1 ⟨Nat.le_of_ble_eq_true rfl, Nat.le_of_ble_eq_true rfl⟩ (Nat.le_of_ble_eq_true rfl) dL_law_220 ⟨by show cells + 4 + 0 ≤ 601024; omega, by show slots + 1314 + 0 ≤ 7293034; omega⟩) (fun v Mt H locs hp hds hT => ?_)
  obtain ⟨r2, rfl, hans, hM⟩ := hp
  refine W.eq (g2 := F0 m 223 ls (.int _ :: _)) rfl ?_
  refine lv_istore X.1 X.2.1 dL_law_223 hl (by decide) rfl (fun ls hl => ?_)
  refine lv_aload_n X.1 X.2.1 dL_law_225 rfl (lv_at hl 5 rfl) ?_
  refine mr_go X hT hds (mr_runV X hT cb_RL_93 kw822 kw823 kw824 (m_thrown hfl hM) (mr_cell X hT (mw_or_l hM.1) rfl) rfl rfl hl.1 ⟨Nat.le_of_ble_eq_true rfl, Nat.le_of_ble_eq_true rfl⟩ (Nat.le_of_ble_eq_true rfl) dL_law_226 ⟨by show cells + 4 + 0 + 0 ≤ 601024; omega, by show slots + 1314 + 0 + 0 ≤ 7293034; omega⟩) (fun v Mt H locs hp hds hT => ?_)
  obtain ⟨r3, rfl, rfl, hM⟩ := hp
  refine W.eq (g2 := F0 m 229 ls (.int _ :: _)) rfl ?_
  refine lv_iload X.1 X.2.1 dL_law_229 (lv_at hl 1 rfl) ?_
  refine lv_icmp_eq X.1 X.2.1 (tgt := 236) dL_law_231 (by decide) (fun c231 => ?_) (fun c231 => absurd rfl c231)
  refine lv_iload X.1 X.2.1 dL_law_236 (lv_at hl 1 rfl) ?_
  refine lv_if_ne X.1 X.2.1 (tgt := 253) dL_law_238 (by decide) (fun c2 => ?_) (fun c2 => ?_)
  · skip
    refine lv_goto X.1 X.2.1 (tgt := 1495) dL_law_253 (by decide) ?_
    refine nx _ _ _ _ _ ?_
    exact ⟨b1, _, w1, _, Mx1, Mt, f1, e00, hA1, ho1, law_q (fun hc => st_addMachine hq hc) hq, hM, hd1, mw_ds_comm hds, by rw [mw_or_comm hds] at hT; exact hT, lv_sub hl [2, 3, 4, 5, 6] rfl, by show cells + 4 + 0 + 0 ≤ 100 + 20 * (k + 1); omega, by show slots + 1314 + 0 + 0 ≤ 100000 + 3000 * (k + 1); omega⟩
  · skip
    refine lv_aload_n X.1 X.2.1 dL_law_241 rfl (lv_at hl 6 rfl) ?_
    refine lv_iconst X.1 X.2.1 (v := 0) dL_law_242 (by decide) ?_
    refine mr_lald X hT (law_o hds hd1) (vp_in_nI (n := 0) (show 0 < 1 by decide) (by decide)) dL_law_243 ?_
    refine lv_iload X.1 X.2.1 dL_law_244 (lv_at hl 0 rfl) ?_
    refine lv_i2l X.1 X.2.1 dL_law_246 rfl ?_
    refine W.lcmp X.1 X.2.1 dL_law_247 ?_
    refine lv_if_eq X.1 X.2.1 (tgt := 253) dL_law_248 (by decide) (fun c3 => ?_) (fun c3 => absurd (law_cmp ((congrArg f1 law_0).trans (by rw [han c2, hans c2]))) c3)
    refine lv_goto X.1 X.2.1 (tgt := 1495) dL_law_253 (by decide) ?_
    refine nx _ _ _ _ _ ?_
    exact ⟨b1, _, w1, _, Mx1, Mt, f1, e00, hA1, ho1, law_q (fun hc => st_addMachine hq hc) hq, hM, hd1, mw_ds_comm hds, by rw [mw_or_comm hds] at hT; exact hT, lv_sub hl [2, 3, 4, 5, 6] rfl, by show cells + 4 + 0 + 0 ≤ 100 + 20 * (k + 1); omega, by show slots + 1314 + 0 + 0 ≤ 100000 + 3000 * (k + 1); omega⟩

set_option maxHeartbeats 4000000 in
set_option maxRecDepth 100000 in
theorem law_c2F {p : Program} {l : Launch} {e : Env} {s : State} {m : MethodId} {below : List Frame} {meth : Method} {c : Code} {G : mw_G} (hfl : l.stackTraces = false) (X : mw_B p l s m meth c code 7 RL G (fun q => s.heap.size ≤ q)) (hN : mw_N s) {b0 L : Nat} {xs : Nat → Int32} (hX : va_X b0 L xs s s.heap) (hbl : b0 < s.heap.size) {gx hm o : Nat} {ad : Nat → Nat} {k : Nat} {H : Heap} {locs : List Loc} {ls : Array Slot} {cells slots : Nat} (hk : k ≤ 511) (hkL : 4 * k + 4 ≤ L) (hL : L ≤ 2048) (hI : law_I G s b0 gx hm o ad k (4 * k) H locs ls cells slots) (h3 : xs (4 * k + 3) = 0) (nx : ∀ (H : Heap) (locs : List Loc) (ls : Array Slot) (cells slots : Nat), law_I G s b0 gx hm o ad (k + 1) (4 * k) H locs ls cells slots → W p l e room_1 s m #[Value.ref b0] below meth c H locs cells slots (lw_Z below #[Value.ref b0] s) (F0 m 1495 ls [])) : W p l e room_1 s m #[Value.ref b0] below meth c H locs cells slots (lw_Z below #[Value.ref b0] s) (F0 m 256 ls []) := by
  obtain ⟨b, x, w, lst, Mx, Mt, f, rfl, hA, ho, hq, hM, hd, hds, hT, hl, hce, hsl⟩ := hI
  have hbA : ¬ (fun q => s.heap.size ≤ q) b0 := Nat.not_le.mpr hbl
  have hi := q_inv_mono hq.1 hk
  refine lv_aload_n X.1 X.2.1 dL_law_256 rfl (lv_at hl 2 rfl) ?_
  refine lv_aload_n X.1 X.2.1 dL_law_257 rfl (lv_at hl 1 rfl) ?_
  refine lv_iload X.1 X.2.1 dL_law_258 (lv_at hl 0 rfl) ?_
  refine lv_iconst X.1 X.2.1 (v := 1) dL_law_260 (by decide) ?_
  refine lv_iadd X.1 X.2.1 dL_law_261 ?_
  refine mm_top (w := nI (4 * k + 1)) (nI_add _ 1) ?_
  refine va_sld X.1 X.2.1 hX hbl hbA hT.2.2 (vp_in_nI (n := 4 * k + 1) (by omega) (by omega)) dL_law_262 ?_
  refine mm_top (w := xs (4 * k + 1)) (by rw [nI_clamp (by omega)]) ?_
  refine lv_aload_n X.1 X.2.1 dL_law_263 rfl (lv_at hl 1 rfl) ?_
  refine lv_iload X.1 X.2.1 dL_law_264 (lv_at hl 0 rfl) ?_
  refine lv_iconst X.1 X.2.1 (v := 2) dL_law_266 (by decide) ?_
  refine lv_iadd X.1 X.2.1 dL_law_267 ?_
  refine mm_top (w := nI (4 * k + 2)) (nI_add _ 2) ?_
  refine va_sld X.1 X.2.1 hX hbl hbA hT.2.2 (vp_in_nI (n := 4 * k + 2) (by omega) (by omega)) dL_law_268 ?_
  refine mm_top (w := xs (4 * k + 2)) (by rw [nI_clamp (by omega)]) ?_
  refine lv_aload_n X.1 X.2.1 dL_law_269 rfl (lv_at hl 1 rfl) ?_
  refine lv_iload X.1 X.2.1 dL_law_270 (lv_at hl 0 rfl) ?_
  refine lv_iconst X.1 X.2.1 (v := 3) dL_law_272 (by decide) ?_
  refine lv_iadd X.1 X.2.1 dL_law_273 ?_
  refine mm_top (w := nI (4 * k + 3)) (nI_add _ 3) ?_
  refine va_sld X.1 X.2.1 hX hbl hbA hT.2.2 (vp_in_nI (n := 4 * k + 3) (by omega) (by omega)) dL_law_274 ?_
  refine mm_top (w := xs (4 * k + 3)) (by rw [nI_clamp (by omega)]) ?_
  refine lv_if_eq X.1 X.2.1 (tgt := 282) dL_law_275 (by decide) (fun c3 => ?_) (fun c3 => absurd h3 c3)
  refine lv_iconst X.1 X.2.1 (v := 0) dL_law_282 (by decide) ?_
  refine lv_aload_n X.1 X.2.1 dL_law_283 rfl (lv_at hl 4 rfl) ?_
  refine mr_goX X hT hds (mr_runSN X hN hT cb_RL_100 kw326 kw327 (l_setLabelF hfl hA ho hi hd) rfl rfl hl.1 ⟨Nat.le_of_ble_eq_true rfl, Nat.le_of_ble_eq_true rfl⟩ (Nat.le_of_ble_eq_true rfl) dL_law_284 ⟨by show cells + 2 ≤ 601024; omega, by show slots + 12 ≤ 7293034; omega⟩) (fun E ce9 q9 H locs hp hT h1 h2 h3 => absurd hp id) (fun v M1 H locs hp hds hT => ?_)
  obtain ⟨r, rfl, Mx1, f1, rfl, rfl, hd1, ⟨b1, e00, w1, hA1, ho1⟩, han⟩ := hp
  refine W.eq (g2 := F0 m 287 ls (.int _ :: _)) rfl ?_
  rw [mw_or_comm hds] at hT
  have hds := mw_ds_comm hds
  refine lv_istore X.1 X.2.1 dL_law_287 hl (by decide) rfl (fun ls hl => ?_)
  refine lv_aload_n X.1 X.2.1 dL_law_289 rfl (lv_at hl 4 rfl) ?_
  refine lv_aload_n X.1 X.2.1 dL_law_290 rfl (lv_at hl 2 rfl) ?_
  refine lv_iload X.1 X.2.1 dL_law_291 (lv_at hl 1 rfl) ?_
  refine lv_iconst X.1 X.2.1 (v := 1) dL_law_293 (by decide) ?_
  refine lv_iadd X.1 X.2.1 dL_law_294 ?_
  refine mm_top (w := nI (4 * k + 1)) (nI_add _ 1) ?_
  refine va_sld X.1 X.2.1 hX hbl hbA hT.2.2 (vp_in_nI (n := 4 * k + 1) (by omega) (by omega)) dL_law_295 ?_
  refine mm_top (w := xs (4 * k + 1)) (by rw [nI_clamp (by omega)]) ?_
  refine lv_aload_n X.1 X.2.1 dL_law_296 rfl (lv_at hl 2 rfl) ?_
  refine lv_iload X.1 X.2.1 dL_law_297 (lv_at hl 1 rfl) ?_
  refine lv_iconst X.1 X.2.1 (v := 2) dL_law_299 (by decide) ?_
  refine lv_iadd X.1 X.2.1 dL_law_300 ?_
  refine mm_top (w := nI (4 * k + 2)) (nI_add _ 2) ?_
  refine va_sld X.1 X.2.1 hX hbl hbA hT.2.2 (vp_in_nI (n := 4 * k + 2) (by omega) (by omega)) dL_law_301 ?_
  refine mm_top (w := xs (4 * k + 2)) (by rw [nI_clamp (by omega)]) ?_
  refine lv_aload_n X.1 X.2.1 dL_law_302 rfl (lv_at hl 2 rfl) ?_
  refine lv_iload X.1 X.2.1 dL_law_303 (lv_at hl 1 rfl) ?_
  refine lv_iconst X.1 X.2.1 (v := 3) dL_law_305 (by decide) ?_
  refine lv_iadd X.1 X.2.1 dL_law_306 ?_
  refine mm_top (w := nI (4 * k + 3)) (nI_add _ 3) ?_
  refine va_sld X.1 X.2.1 hX hbl hbA hT.2.2 (vp_in_nI (n := 4 * k + 3) (by omega) (by omega)) dL_law_307 ?_
  refine mm_top (w := xs (4 * k + 3)) (by rw [nI_clamp (by omega)]) ?_
  refine lv_if_eq X.1 X.2.1 (tgt := 315) dL_law_308 (by decide) (fun c3 => ?_) (fun c3 => absurd h3 c3)
  refine lv_iconst X.1 X.2.1 (v := 0) dL_law_315 (by decide) ?_
  refine mr_go X hT hds (mr_runV X hT cb_RL_103 kw841 kw842 kw843 (m_setLabelF hfl hM hi) (mr_cell X hT (mw_or_l hM.1) rfl) rfl rfl hl.1 ⟨Nat.le_of_ble_eq_true rfl, Nat.le_of_ble_eq_true rfl⟩ (Nat.le_of_ble_eq_true rfl) dL_law_316 ⟨by show cells + 2 + 0 ≤ 601024; omega, by show slots + 12 + 0 ≤ 7293034; omega⟩) (fun v Mt H locs hp hds hT => ?_)
  obtain ⟨r2, rfl, hans, hM⟩ := hp
  refine W.eq (g2 := F0 m 319 ls (.int _ :: _)) rfl ?_
  refine lv_istore X.1 X.2.1 dL_law_319 hl (by decide) rfl (fun ls hl => ?_)
  refine lv_aload_n X.1 X.2.1 dL_law_321 rfl (lv_at hl 5 rfl) ?_
  refine mr_go X hT hds (mr_runV X hT cb_RL_93 kw822 kw823 kw824 (m_thrown hfl hM) (mr_cell X hT (mw_or_l hM.1) rfl) rfl rfl hl.1 ⟨Nat.le_of_ble_eq_true rfl, Nat.le_of_ble_eq_true rfl⟩ (Nat.le_of_ble_eq_true rfl) dL_law_322 ⟨by show cells + 2 + 0 + 0 ≤ 601024; omega, by show slots + 12 + 0 + 0 ≤ 7293034; omega⟩) (fun v Mt H locs hp hds hT => ?_)
  obtain ⟨r3, rfl, rfl, hM⟩ := hp
  refine W.eq (g2 := F0 m 325 ls (.int _ :: _)) rfl ?_
  refine lv_iload X.1 X.2.1 dL_law_325 (lv_at hl 1 rfl) ?_
  refine lv_icmp_eq X.1 X.2.1 (tgt := 332) dL_law_327 (by decide) (fun c327 => ?_) (fun c327 => absurd rfl c327)
  refine lv_iload X.1 X.2.1 dL_law_332 (lv_at hl 1 rfl) ?_
  refine lv_if_ne X.1 X.2.1 (tgt := 349) dL_law_334 (by decide) (fun c2 => ?_) (fun c2 => ?_)
  · skip
    refine lv_goto X.1 X.2.1 (tgt := 1495) dL_law_349 (by decide) ?_
    refine nx _ _ _ _ _ ?_
    exact ⟨b1, _, w1, _, Mx1, Mt, f1, e00, hA1, ho1, law_q (fun hc => st_setLabelF hq hc) hq, hM, hd1, mw_ds_comm hds, by rw [mw_or_comm hds] at hT; exact hT, lv_sub hl [2, 3, 4, 5, 6] rfl, by show cells + 2 + 0 + 0 ≤ 100 + 20 * (k + 1); omega, by show slots + 12 + 0 + 0 ≤ 100000 + 3000 * (k + 1); omega⟩
  · skip
    refine lv_aload_n X.1 X.2.1 dL_law_337 rfl (lv_at hl 6 rfl) ?_
    refine lv_iconst X.1 X.2.1 (v := 0) dL_law_338 (by decide) ?_
    refine mr_lald X hT (law_o hds hd1) (vp_in_nI (n := 0) (show 0 < 1 by decide) (by decide)) dL_law_339 ?_
    refine lv_iload X.1 X.2.1 dL_law_340 (lv_at hl 0 rfl) ?_
    refine lv_i2l X.1 X.2.1 dL_law_342 rfl ?_
    refine W.lcmp X.1 X.2.1 dL_law_343 ?_
    refine lv_if_eq X.1 X.2.1 (tgt := 349) dL_law_344 (by decide) (fun c3 => ?_) (fun c3 => absurd (law_cmp ((congrArg f1 law_0).trans (by rw [han c2, hans c2]))) c3)
    refine lv_goto X.1 X.2.1 (tgt := 1495) dL_law_349 (by decide) ?_
    refine nx _ _ _ _ _ ?_
    exact ⟨b1, _, w1, _, Mx1, Mt, f1, e00, hA1, ho1, law_q (fun hc => st_setLabelF hq hc) hq, hM, hd1, mw_ds_comm hds, by rw [mw_or_comm hds] at hT; exact hT, lv_sub hl [2, 3, 4, 5, 6] rfl, by show cells + 2 + 0 + 0 ≤ 100 + 20 * (k + 1); omega, by show slots + 12 + 0 + 0 ≤ 100000 + 3000 * (k + 1); omega⟩

set_option maxHeartbeats 4000000 in
set_option maxRecDepth 100000 in
theorem law_c2T {p : Program} {l : Launch} {e : Env} {s : State} {m : MethodId} {below : List Frame} {meth : Method} {c : Code} {G : mw_G} (hfl : l.stackTraces = false) (X : mw_B p l s m meth c code 7 RL G (fun q => s.heap.size ≤ q)) (hN : mw_N s) {b0 L : Nat} {xs : Nat → Int32} (hX : va_X b0 L xs s s.heap) (hbl : b0 < s.heap.size) {gx hm o : Nat} {ad : Nat → Nat} {k : Nat} {H : Heap} {locs : List Loc} {ls : Array Slot} {cells slots : Nat} (hk : k ≤ 511) (hkL : 4 * k + 4 ≤ L) (hL : L ≤ 2048) (hI : law_I G s b0 gx hm o ad k (4 * k) H locs ls cells slots) (h3 : ¬ xs (4 * k + 3) = 0) (nx : ∀ (H : Heap) (locs : List Loc) (ls : Array Slot) (cells slots : Nat), law_I G s b0 gx hm o ad (k + 1) (4 * k) H locs ls cells slots → W p l e room_1 s m #[Value.ref b0] below meth c H locs cells slots (lw_Z below #[Value.ref b0] s) (F0 m 1495 ls [])) : W p l e room_1 s m #[Value.ref b0] below meth c H locs cells slots (lw_Z below #[Value.ref b0] s) (F0 m 256 ls []) := by
  obtain ⟨b, x, w, lst, Mx, Mt, f, rfl, hA, ho, hq, hM, hd, hds, hT, hl, hce, hsl⟩ := hI
  have hbA : ¬ (fun q => s.heap.size ≤ q) b0 := Nat.not_le.mpr hbl
  have hi := q_inv_mono hq.1 hk
  refine lv_aload_n X.1 X.2.1 dL_law_256 rfl (lv_at hl 2 rfl) ?_
  refine lv_aload_n X.1 X.2.1 dL_law_257 rfl (lv_at hl 1 rfl) ?_
  refine lv_iload X.1 X.2.1 dL_law_258 (lv_at hl 0 rfl) ?_
  refine lv_iconst X.1 X.2.1 (v := 1) dL_law_260 (by decide) ?_
  refine lv_iadd X.1 X.2.1 dL_law_261 ?_
  refine mm_top (w := nI (4 * k + 1)) (nI_add _ 1) ?_
  refine va_sld X.1 X.2.1 hX hbl hbA hT.2.2 (vp_in_nI (n := 4 * k + 1) (by omega) (by omega)) dL_law_262 ?_
  refine mm_top (w := xs (4 * k + 1)) (by rw [nI_clamp (by omega)]) ?_
  refine lv_aload_n X.1 X.2.1 dL_law_263 rfl (lv_at hl 1 rfl) ?_
  refine lv_iload X.1 X.2.1 dL_law_264 (lv_at hl 0 rfl) ?_
  refine lv_iconst X.1 X.2.1 (v := 2) dL_law_266 (by decide) ?_
  refine lv_iadd X.1 X.2.1 dL_law_267 ?_
  refine mm_top (w := nI (4 * k + 2)) (nI_add _ 2) ?_
  refine va_sld X.1 X.2.1 hX hbl hbA hT.2.2 (vp_in_nI (n := 4 * k + 2) (by omega) (by omega)) dL_law_268 ?_
  refine mm_top (w := xs (4 * k + 2)) (by rw [nI_clamp (by omega)]) ?_
  refine lv_aload_n X.1 X.2.1 dL_law_269 rfl (lv_at hl 1 rfl) ?_
  refine lv_iload X.1 X.2.1 dL_law_270 (lv_at hl 0 rfl) ?_
  refine lv_iconst X.1 X.2.1 (v := 3) dL_law_272 (by decide) ?_
  refine lv_iadd X.1 X.2.1 dL_law_273 ?_
  refine mm_top (w := nI (4 * k + 3)) (nI_add _ 3) ?_
  refine va_sld X.1 X.2.1 hX hbl hbA hT.2.2 (vp_in_nI (n := 4 * k + 3) (by omega) (by omega)) dL_law_274 ?_
  refine mm_top (w := xs (4 * k + 3)) (by rw [nI_clamp (by omega)]) ?_
  refine lv_if_eq X.1 X.2.1 (tgt := 282) dL_law_275 (by decide) (fun c3 => absurd c3 h3) (fun c3 => ?_)
  refine lv_iconst X.1 X.2.1 (v := 1) dL_law_278 (by decide) ?_
  refine lv_goto X.1 X.2.1 (tgt := 283) dL_law_279 (by decide) ?_
  refine lv_aload_n X.1 X.2.1 dL_law_283 rfl (lv_at hl 4 rfl) ?_
  refine mr_goX X hT hds (mr_runSN X hN hT cb_RL_100 kw326 kw327 (l_setLabelT hfl hA ho hi hd) rfl rfl hl.1 ⟨Nat.le_of_ble_eq_true rfl, Nat.le_of_ble_eq_true rfl⟩ (Nat.le_of_ble_eq_true rfl) dL_law_284 ⟨by show cells + 2 ≤ 601024; omega, by show slots + 12 ≤ 7293034; omega⟩) (fun E ce9 q9 H locs hp hT h1 h2 h3 => absurd hp id) (fun v M1 H locs hp hds hT => ?_)
  obtain ⟨r, rfl, Mx1, f1, rfl, rfl, hd1, ⟨b1, e00, w1, hA1, ho1⟩, han⟩ := hp
  refine W.eq (g2 := F0 m 287 ls (.int _ :: _)) rfl ?_
  rw [mw_or_comm hds] at hT
  have hds := mw_ds_comm hds
  refine lv_istore X.1 X.2.1 dL_law_287 hl (by decide) rfl (fun ls hl => ?_)
  refine lv_aload_n X.1 X.2.1 dL_law_289 rfl (lv_at hl 4 rfl) ?_
  refine lv_aload_n X.1 X.2.1 dL_law_290 rfl (lv_at hl 2 rfl) ?_
  refine lv_iload X.1 X.2.1 dL_law_291 (lv_at hl 1 rfl) ?_
  refine lv_iconst X.1 X.2.1 (v := 1) dL_law_293 (by decide) ?_
  refine lv_iadd X.1 X.2.1 dL_law_294 ?_
  refine mm_top (w := nI (4 * k + 1)) (nI_add _ 1) ?_
  refine va_sld X.1 X.2.1 hX hbl hbA hT.2.2 (vp_in_nI (n := 4 * k + 1) (by omega) (by omega)) dL_law_295 ?_
  refine mm_top (w := xs (4 * k + 1)) (by rw [nI_clamp (by omega)]) ?_
  refine lv_aload_n X.1 X.2.1 dL_law_296 rfl (lv_at hl 2 rfl) ?_
  refine lv_iload X.1 X.2.1 dL_law_297 (lv_at hl 1 rfl) ?_
  refine lv_iconst X.1 X.2.1 (v := 2) dL_law_299 (by decide) ?_
  refine lv_iadd X.1 X.2.1 dL_law_300 ?_
  refine mm_top (w := nI (4 * k + 2)) (nI_add _ 2) ?_
  refine va_sld X.1 X.2.1 hX hbl hbA hT.2.2 (vp_in_nI (n := 4 * k + 2) (by omega) (by omega)) dL_law_301 ?_
  refine mm_top (w := xs (4 * k + 2)) (by rw [nI_clamp (by omega)]) ?_
  refine lv_aload_n X.1 X.2.1 dL_law_302 rfl (lv_at hl 2 rfl) ?_
  refine lv_iload X.1 X.2.1 dL_law_303 (lv_at hl 1 rfl) ?_
  refine lv_iconst X.1 X.2.1 (v := 3) dL_law_305 (by decide) ?_
  refine lv_iadd X.1 X.2.1 dL_law_306 ?_
  refine mm_top (w := nI (4 * k + 3)) (nI_add _ 3) ?_
  refine va_sld X.1 X.2.1 hX hbl hbA hT.2.2 (vp_in_nI (n := 4 * k + 3) (by omega) (by omega)) dL_law_307 ?_
  refine mm_top (w := xs (4 * k + 3)) (by rw [nI_clamp (by omega)]) ?_
  refine lv_if_eq X.1 X.2.1 (tgt := 315) dL_law_308 (by decide) (fun c3 => absurd c3 h3) (fun c3 => ?_)
  refine lv_iconst X.1 X.2.1 (v := 1) dL_law_311 (by decide) ?_
  refine lv_goto X.1 X.2.1 (tgt := 316) dL_law_312 (by decide) ?_
  refine mr_go X hT hds (mr_runV X hT cb_RL_103 kw841 kw842 kw843 (m_setLabelT hfl hM hi) (mr_cell X hT (mw_or_l hM.1) rfl) rfl rfl hl.1 ⟨Nat.le_of_ble_eq_true rfl, Nat.le_of_ble_eq_true rfl⟩ (Nat.le_of_ble_eq_true rfl) dL_law_316 ⟨by show cells + 2 + 0 ≤ 601024; omega, by show slots + 12 + 0 ≤ 7293034; omega⟩) (fun v Mt H locs hp hds hT => ?_)
  obtain ⟨r2, rfl, hans, hM⟩ := hp
  refine W.eq (g2 := F0 m 319 ls (.int _ :: _)) rfl ?_
  refine lv_istore X.1 X.2.1 dL_law_319 hl (by decide) rfl (fun ls hl => ?_)
  refine lv_aload_n X.1 X.2.1 dL_law_321 rfl (lv_at hl 5 rfl) ?_
  refine mr_go X hT hds (mr_runV X hT cb_RL_93 kw822 kw823 kw824 (m_thrown hfl hM) (mr_cell X hT (mw_or_l hM.1) rfl) rfl rfl hl.1 ⟨Nat.le_of_ble_eq_true rfl, Nat.le_of_ble_eq_true rfl⟩ (Nat.le_of_ble_eq_true rfl) dL_law_322 ⟨by show cells + 2 + 0 + 0 ≤ 601024; omega, by show slots + 12 + 0 + 0 ≤ 7293034; omega⟩) (fun v Mt H locs hp hds hT => ?_)
  obtain ⟨r3, rfl, rfl, hM⟩ := hp
  refine W.eq (g2 := F0 m 325 ls (.int _ :: _)) rfl ?_
  refine lv_iload X.1 X.2.1 dL_law_325 (lv_at hl 1 rfl) ?_
  refine lv_icmp_eq X.1 X.2.1 (tgt := 332) dL_law_327 (by decide) (fun c327 => ?_) (fun c327 => absurd rfl c327)
  refine lv_iload X.1 X.2.1 dL_law_332 (lv_at hl 1 rfl) ?_
  refine lv_if_ne X.1 X.2.1 (tgt := 349) dL_law_334 (by decide) (fun c2 => ?_) (fun c2 => ?_)
  · skip
    refine lv_goto X.1 X.2.1 (tgt := 1495) dL_law_349 (by decide) ?_
    refine nx _ _ _ _ _ ?_
    exact ⟨b1, _, w1, _, Mx1, Mt, f1, e00, hA1, ho1, law_q (fun hc => st_setLabelT hq hc) hq, hM, hd1, mw_ds_comm hds, by rw [mw_or_comm hds] at hT; exact hT, lv_sub hl [2, 3, 4, 5, 6] rfl, by show cells + 2 + 0 + 0 ≤ 100 + 20 * (k + 1); omega, by show slots + 12 + 0 + 0 ≤ 100000 + 3000 * (k + 1); omega⟩
  · skip
    refine lv_aload_n X.1 X.2.1 dL_law_337 rfl (lv_at hl 6 rfl) ?_
    refine lv_iconst X.1 X.2.1 (v := 0) dL_law_338 (by decide) ?_
    refine mr_lald X hT (law_o hds hd1) (vp_in_nI (n := 0) (show 0 < 1 by decide) (by decide)) dL_law_339 ?_
    refine lv_iload X.1 X.2.1 dL_law_340 (lv_at hl 0 rfl) ?_
    refine lv_i2l X.1 X.2.1 dL_law_342 rfl ?_
    refine W.lcmp X.1 X.2.1 dL_law_343 ?_
    refine lv_if_eq X.1 X.2.1 (tgt := 349) dL_law_344 (by decide) (fun c3 => ?_) (fun c3 => absurd (law_cmp ((congrArg f1 law_0).trans (by rw [han c2, hans c2]))) c3)
    refine lv_goto X.1 X.2.1 (tgt := 1495) dL_law_349 (by decide) ?_
    refine nx _ _ _ _ _ ?_
    exact ⟨b1, _, w1, _, Mx1, Mt, f1, e00, hA1, ho1, law_q (fun hc => st_setLabelT hq hc) hq, hM, hd1, mw_ds_comm hds, by rw [mw_or_comm hds] at hT; exact hT, lv_sub hl [2, 3, 4, 5, 6] rfl, by show cells + 2 + 0 + 0 ≤ 100 + 20 * (k + 1); omega, by show slots + 12 + 0 + 0 ≤ 100000 + 3000 * (k + 1); omega⟩

set_option maxHeartbeats 4000000 in
set_option maxRecDepth 100000 in
theorem law_c3 {p : Program} {l : Launch} {e : Env} {s : State} {m : MethodId} {below : List Frame} {meth : Method} {c : Code} {G : mw_G} (hfl : l.stackTraces = false) (X : mw_B p l s m meth c code 7 RL G (fun q => s.heap.size ≤ q)) (hN : mw_N s) {b0 L : Nat} {xs : Nat → Int32} (hX : va_X b0 L xs s s.heap) (hbl : b0 < s.heap.size) {gx hm o : Nat} {ad : Nat → Nat} {k : Nat} {H : Heap} {locs : List Loc} {ls : Array Slot} {cells slots : Nat} (hk : k ≤ 511) (hkL : 4 * k + 4 ≤ L) (hL : L ≤ 2048) (hI : law_I G s b0 gx hm o ad k (4 * k) H locs ls cells slots) (nx : ∀ (H : Heap) (locs : List Loc) (ls : Array Slot) (cells slots : Nat), law_I G s b0 gx hm o ad (k + 1) (4 * k) H locs ls cells slots → W p l e room_1 s m #[Value.ref b0] below meth c H locs cells slots (lw_Z below #[Value.ref b0] s) (F0 m 1495 ls [])) : W p l e room_1 s m #[Value.ref b0] below meth c H locs cells slots (lw_Z below #[Value.ref b0] s) (F0 m 352 ls []) := by
  obtain ⟨b, x, w, lst, Mx, Mt, f, rfl, hA, ho, hq, hM, hd, hds, hT, hl, hce, hsl⟩ := hI
  have hbA : ¬ (fun q => s.heap.size ≤ q) b0 := Nat.not_le.mpr hbl
  have hi := q_inv_mono hq.1 hk
  refine lv_aload_n X.1 X.2.1 dL_law_352 rfl (lv_at hl 2 rfl) ?_
  refine lv_aload_n X.1 X.2.1 dL_law_353 rfl (lv_at hl 1 rfl) ?_
  refine lv_iload X.1 X.2.1 dL_law_354 (lv_at hl 0 rfl) ?_
  refine lv_iconst X.1 X.2.1 (v := 1) dL_law_356 (by decide) ?_
  refine lv_iadd X.1 X.2.1 dL_law_357 ?_
  refine mm_top (w := nI (4 * k + 1)) (nI_add _ 1) ?_
  refine va_sld X.1 X.2.1 hX hbl hbA hT.2.2 (vp_in_nI (n := 4 * k + 1) (by omega) (by omega)) dL_law_358 ?_
  refine mm_top (w := xs (4 * k + 1)) (by rw [nI_clamp (by omega)]) ?_
  refine lv_aload_n X.1 X.2.1 dL_law_359 rfl (lv_at hl 1 rfl) ?_
  refine lv_iload X.1 X.2.1 dL_law_360 (lv_at hl 0 rfl) ?_
  refine lv_iconst X.1 X.2.1 (v := 2) dL_law_362 (by decide) ?_
  refine lv_iadd X.1 X.2.1 dL_law_363 ?_
  refine mm_top (w := nI (4 * k + 2)) (nI_add _ 2) ?_
  refine va_sld X.1 X.2.1 hX hbl hbA hT.2.2 (vp_in_nI (n := 4 * k + 2) (by omega) (by omega)) dL_law_364 ?_
  refine mm_top (w := xs (4 * k + 2)) (by rw [nI_clamp (by omega)]) ?_
  refine lv_aload_n X.1 X.2.1 dL_law_365 rfl (lv_at hl 4 rfl) ?_
  refine mr_goX X hT hds (mr_runSN X hN hT cb_RL_104 kw415 kw416 (l_takeAway hfl hA ho hi hd) rfl rfl hl.1 ⟨Nat.le_of_ble_eq_true rfl, Nat.le_of_ble_eq_true rfl⟩ (Nat.le_of_ble_eq_true rfl) dL_law_366 ⟨by show cells + 2 ≤ 601024; omega, by show slots + 12 ≤ 7293034; omega⟩) (fun E ce9 q9 H locs hp hT h1 h2 h3 => absurd hp id) (fun v M1 H locs hp hds hT => ?_)
  obtain ⟨r, rfl, Mx1, f1, rfl, rfl, hd1, ⟨b1, e00, w1, hA1, ho1⟩, han⟩ := hp
  refine W.eq (g2 := F0 m 369 ls (.int _ :: _)) rfl ?_
  rw [mw_or_comm hds] at hT
  have hds := mw_ds_comm hds
  refine lv_istore X.1 X.2.1 dL_law_369 hl (by decide) rfl (fun ls hl => ?_)
  refine lv_aload_n X.1 X.2.1 dL_law_371 rfl (lv_at hl 4 rfl) ?_
  refine lv_aload_n X.1 X.2.1 dL_law_372 rfl (lv_at hl 2 rfl) ?_
  refine lv_iload X.1 X.2.1 dL_law_373 (lv_at hl 1 rfl) ?_
  refine lv_iconst X.1 X.2.1 (v := 1) dL_law_375 (by decide) ?_
  refine lv_iadd X.1 X.2.1 dL_law_376 ?_
  refine mm_top (w := nI (4 * k + 1)) (nI_add _ 1) ?_
  refine va_sld X.1 X.2.1 hX hbl hbA hT.2.2 (vp_in_nI (n := 4 * k + 1) (by omega) (by omega)) dL_law_377 ?_
  refine mm_top (w := xs (4 * k + 1)) (by rw [nI_clamp (by omega)]) ?_
  refine lv_aload_n X.1 X.2.1 dL_law_378 rfl (lv_at hl 2 rfl) ?_
  refine lv_iload X.1 X.2.1 dL_law_379 (lv_at hl 1 rfl) ?_
  refine lv_iconst X.1 X.2.1 (v := 2) dL_law_381 (by decide) ?_
  refine lv_iadd X.1 X.2.1 dL_law_382 ?_
  refine mm_top (w := nI (4 * k + 2)) (nI_add _ 2) ?_
  refine va_sld X.1 X.2.1 hX hbl hbA hT.2.2 (vp_in_nI (n := 4 * k + 2) (by omega) (by omega)) dL_law_383 ?_
  refine mm_top (w := xs (4 * k + 2)) (by rw [nI_clamp (by omega)]) ?_
  refine mr_go X hT hds (mr_runV X hT cb_RL_107 kw874 kw875 kw876 (m_takeAway hfl hM hi) (mr_cell X hT (mw_or_l hM.1) rfl) rfl rfl hl.1 ⟨Nat.le_of_ble_eq_true rfl, Nat.le_of_ble_eq_true rfl⟩ (Nat.le_of_ble_eq_true rfl) dL_law_384 ⟨by show cells + 2 + 0 ≤ 601024; omega, by show slots + 12 + 0 ≤ 7293034; omega⟩) (fun v Mt H locs hp hds hT => ?_)
  obtain ⟨r2, rfl, hans, hM⟩ := hp
  refine W.eq (g2 := F0 m 387 ls (.int _ :: _)) rfl ?_
  refine lv_istore X.1 X.2.1 dL_law_387 hl (by decide) rfl (fun ls hl => ?_)
  refine lv_aload_n X.1 X.2.1 dL_law_389 rfl (lv_at hl 5 rfl) ?_
  refine mr_go X hT hds (mr_runV X hT cb_RL_93 kw822 kw823 kw824 (m_thrown hfl hM) (mr_cell X hT (mw_or_l hM.1) rfl) rfl rfl hl.1 ⟨Nat.le_of_ble_eq_true rfl, Nat.le_of_ble_eq_true rfl⟩ (Nat.le_of_ble_eq_true rfl) dL_law_390 ⟨by show cells + 2 + 0 + 0 ≤ 601024; omega, by show slots + 12 + 0 + 0 ≤ 7293034; omega⟩) (fun v Mt H locs hp hds hT => ?_)
  obtain ⟨r3, rfl, rfl, hM⟩ := hp
  refine W.eq (g2 := F0 m 393 ls (.int _ :: _)) rfl ?_
  refine lv_iload X.1 X.2.1 dL_law_393 (lv_at hl 1 rfl) ?_
  refine lv_icmp_eq X.1 X.2.1 (tgt := 400) dL_law_395 (by decide) (fun c395 => ?_) (fun c395 => absurd rfl c395)
  refine lv_iload X.1 X.2.1 dL_law_400 (lv_at hl 1 rfl) ?_
  refine lv_if_ne X.1 X.2.1 (tgt := 417) dL_law_402 (by decide) (fun c2 => ?_) (fun c2 => ?_)
  · skip
    refine lv_goto X.1 X.2.1 (tgt := 1495) dL_law_417 (by decide) ?_
    refine nx _ _ _ _ _ ?_
    exact ⟨b1, _, w1, _, Mx1, Mt, f1, e00, hA1, ho1, law_q (fun hc => st_takeAway hq) hq, hM, hd1, mw_ds_comm hds, by rw [mw_or_comm hds] at hT; exact hT, lv_sub hl [2, 3, 4, 5, 6] rfl, by show cells + 2 + 0 + 0 ≤ 100 + 20 * (k + 1); omega, by show slots + 12 + 0 + 0 ≤ 100000 + 3000 * (k + 1); omega⟩
  · skip
    refine lv_aload_n X.1 X.2.1 dL_law_405 rfl (lv_at hl 6 rfl) ?_
    refine lv_iconst X.1 X.2.1 (v := 0) dL_law_406 (by decide) ?_
    refine mr_lald X hT (law_o hds hd1) (vp_in_nI (n := 0) (show 0 < 1 by decide) (by decide)) dL_law_407 ?_
    refine lv_iload X.1 X.2.1 dL_law_408 (lv_at hl 0 rfl) ?_
    refine lv_i2l X.1 X.2.1 dL_law_410 rfl ?_
    refine W.lcmp X.1 X.2.1 dL_law_411 ?_
    refine lv_if_eq X.1 X.2.1 (tgt := 417) dL_law_412 (by decide) (fun c3 => ?_) (fun c3 => absurd (law_cmp ((congrArg f1 law_0).trans (by rw [han c2, hans c2]))) c3)
    refine lv_goto X.1 X.2.1 (tgt := 1495) dL_law_417 (by decide) ?_
    refine nx _ _ _ _ _ ?_
    exact ⟨b1, _, w1, _, Mx1, Mt, f1, e00, hA1, ho1, law_q (fun hc => st_takeAway hq) hq, hM, hd1, mw_ds_comm hds, by rw [mw_or_comm hds] at hT; exact hT, lv_sub hl [2, 3, 4, 5, 6] rfl, by show cells + 2 + 0 + 0 ≤ 100 + 20 * (k + 1); omega, by show slots + 12 + 0 + 0 ≤ 100000 + 3000 * (k + 1); omega⟩

set_option maxHeartbeats 4000000 in
set_option maxRecDepth 100000 in
theorem law_c4 {p : Program} {l : Launch} {e : Env} {s : State} {m : MethodId} {below : List Frame} {meth : Method} {c : Code} {G : mw_G} (hfl : l.stackTraces = false) (X : mw_B p l s m meth c code 7 RL G (fun q => s.heap.size ≤ q)) (hN : mw_N s) {b0 L : Nat} {xs : Nat → Int32} (hX : va_X b0 L xs s s.heap) (hbl : b0 < s.heap.size) {gx hm o : Nat} {ad : Nat → Nat} {k : Nat} {H : Heap} {locs : List Loc} {ls : Array Slot} {cells slots : Nat} (hk : k ≤ 511) (hkL : 4 * k + 4 ≤ L) (hL : L ≤ 2048) (hI : law_I G s b0 gx hm o ad k (4 * k) H locs ls cells slots) (nx : ∀ (H : Heap) (locs : List Loc) (ls : Array Slot) (cells slots : Nat), law_I G s b0 gx hm o ad (k + 1) (4 * k) H locs ls cells slots → W p l e room_1 s m #[Value.ref b0] below meth c H locs cells slots (lw_Z below #[Value.ref b0] s) (F0 m 1495 ls [])) : W p l e room_1 s m #[Value.ref b0] below meth c H locs cells slots (lw_Z below #[Value.ref b0] s) (F0 m 420 ls []) := by
  obtain ⟨b, x, w, lst, Mx, Mt, f, rfl, hA, ho, hq, hM, hd, hds, hT, hl, hce, hsl⟩ := hI
  have hbA : ¬ (fun q => s.heap.size ≤ q) b0 := Nat.not_le.mpr hbl
  have hi := q_inv_mono hq.1 hk
  refine lv_aload_n X.1 X.2.1 dL_law_420 rfl (lv_at hl 2 rfl) ?_
  refine lv_aload_n X.1 X.2.1 dL_law_421 rfl (lv_at hl 1 rfl) ?_
  refine lv_iload X.1 X.2.1 dL_law_422 (lv_at hl 0 rfl) ?_
  refine lv_iconst X.1 X.2.1 (v := 1) dL_law_424 (by decide) ?_
  refine lv_iadd X.1 X.2.1 dL_law_425 ?_
  refine mm_top (w := nI (4 * k + 1)) (nI_add _ 1) ?_
  refine va_sld X.1 X.2.1 hX hbl hbA hT.2.2 (vp_in_nI (n := 4 * k + 1) (by omega) (by omega)) dL_law_426 ?_
  refine mm_top (w := xs (4 * k + 1)) (by rw [nI_clamp (by omega)]) ?_
  refine lv_aload_n X.1 X.2.1 dL_law_427 rfl (lv_at hl 1 rfl) ?_
  refine lv_iload X.1 X.2.1 dL_law_428 (lv_at hl 0 rfl) ?_
  refine lv_iconst X.1 X.2.1 (v := 2) dL_law_430 (by decide) ?_
  refine lv_iadd X.1 X.2.1 dL_law_431 ?_
  refine mm_top (w := nI (4 * k + 2)) (nI_add _ 2) ?_
  refine va_sld X.1 X.2.1 hX hbl hbA hT.2.2 (vp_in_nI (n := 4 * k + 2) (by omega) (by omega)) dL_law_432 ?_
  refine mm_top (w := xs (4 * k + 2)) (by rw [nI_clamp (by omega)]) ?_
  refine lv_aload_n X.1 X.2.1 dL_law_433 rfl (lv_at hl 1 rfl) ?_
  refine lv_iload X.1 X.2.1 dL_law_434 (lv_at hl 0 rfl) ?_
  refine lv_iconst X.1 X.2.1 (v := 3) dL_law_436 (by decide) ?_
  refine lv_iadd X.1 X.2.1 dL_law_437 ?_
  refine mm_top (w := nI (4 * k + 3)) (nI_add _ 3) ?_
  refine va_sld X.1 X.2.1 hX hbl hbA hT.2.2 (vp_in_nI (n := 4 * k + 3) (by omega) (by omega)) dL_law_438 ?_
  refine mm_top (w := xs (4 * k + 3)) (by rw [nI_clamp (by omega)]) ?_
  refine lv_aload_n X.1 X.2.1 dL_law_439 rfl (lv_at hl 4 rfl) ?_
  refine mr_goX X hT hds (mr_runSN X hN hT cb_RL_108 kw427 kw428 (l_ask hfl hA ho hi hd) rfl rfl hl.1 ⟨Nat.le_of_ble_eq_true rfl, Nat.le_of_ble_eq_true rfl⟩ (Nat.le_of_ble_eq_true rfl) dL_law_440 ⟨by show cells + 6 ≤ 601024; omega, by show slots + 1330 ≤ 7293034; omega⟩) (fun E ce9 q9 H locs hp hT h1 h2 h3 => absurd hp id) (fun v M1 H locs hp hds hT => ?_)
  obtain ⟨r, rfl, Mx1, f1, rfl, rfl, hd1, ⟨b1, e00, w1, hA1, ho1⟩, han⟩ := hp
  refine W.eq (g2 := F0 m 443 ls (.int _ :: _)) rfl ?_
  rw [mw_or_comm hds] at hT
  have hds := mw_ds_comm hds
  refine lv_istore X.1 X.2.1 dL_law_443 hl (by decide) rfl (fun ls hl => ?_)
  refine lv_aload_n X.1 X.2.1 dL_law_445 rfl (lv_at hl 4 rfl) ?_
  refine lv_aload_n X.1 X.2.1 dL_law_446 rfl (lv_at hl 2 rfl) ?_
  refine lv_iload X.1 X.2.1 dL_law_447 (lv_at hl 1 rfl) ?_
  refine lv_iconst X.1 X.2.1 (v := 1) dL_law_449 (by decide) ?_
  refine lv_iadd X.1 X.2.1 dL_law_450 ?_
  refine mm_top (w := nI (4 * k + 1)) (nI_add _ 1) ?_
  refine va_sld X.1 X.2.1 hX hbl hbA hT.2.2 (vp_in_nI (n := 4 * k + 1) (by omega) (by omega)) dL_law_451 ?_
  refine mm_top (w := xs (4 * k + 1)) (by rw [nI_clamp (by omega)]) ?_
  refine lv_aload_n X.1 X.2.1 dL_law_452 rfl (lv_at hl 2 rfl) ?_
  refine lv_iload X.1 X.2.1 dL_law_453 (lv_at hl 1 rfl) ?_
  refine lv_iconst X.1 X.2.1 (v := 2) dL_law_455 (by decide) ?_
  refine lv_iadd X.1 X.2.1 dL_law_456 ?_
  refine mm_top (w := nI (4 * k + 2)) (nI_add _ 2) ?_
  refine va_sld X.1 X.2.1 hX hbl hbA hT.2.2 (vp_in_nI (n := 4 * k + 2) (by omega) (by omega)) dL_law_457 ?_
  refine mm_top (w := xs (4 * k + 2)) (by rw [nI_clamp (by omega)]) ?_
  refine lv_aload_n X.1 X.2.1 dL_law_458 rfl (lv_at hl 2 rfl) ?_
  refine lv_iload X.1 X.2.1 dL_law_459 (lv_at hl 1 rfl) ?_
  refine lv_iconst X.1 X.2.1 (v := 3) dL_law_461 (by decide) ?_
  refine lv_iadd X.1 X.2.1 dL_law_462 ?_
  refine mm_top (w := nI (4 * k + 3)) (nI_add _ 3) ?_
  refine va_sld X.1 X.2.1 hX hbl hbA hT.2.2 (vp_in_nI (n := 4 * k + 3) (by omega) (by omega)) dL_law_463 ?_
  refine mm_top (w := xs (4 * k + 3)) (by rw [nI_clamp (by omega)]) ?_
  refine mr_go X hT hds (mr_runV X hT cb_RL_111 kw886 kw887 kw888 (m_ask hfl hM hi) (mr_cell X hT (mw_or_l hM.1) rfl) rfl rfl hl.1 ⟨Nat.le_of_ble_eq_true rfl, Nat.le_of_ble_eq_true rfl⟩ (Nat.le_of_ble_eq_true rfl) dL_law_464 ⟨by show cells + 6 + 0 ≤ 601024; omega, by show slots + 1330 + 0 ≤ 7293034; omega⟩) (fun v Mt H locs hp hds hT => ?_)
  obtain ⟨r2, rfl, hans, hM⟩ := hp
  refine W.eq (g2 := F0 m 467 ls (.int _ :: _)) rfl ?_
  refine lv_istore X.1 X.2.1 dL_law_467 hl (by decide) rfl (fun ls hl => ?_)
  refine lv_aload_n X.1 X.2.1 dL_law_469 rfl (lv_at hl 5 rfl) ?_
  refine mr_go X hT hds (mr_runV X hT cb_RL_93 kw822 kw823 kw824 (m_thrown hfl hM) (mr_cell X hT (mw_or_l hM.1) rfl) rfl rfl hl.1 ⟨Nat.le_of_ble_eq_true rfl, Nat.le_of_ble_eq_true rfl⟩ (Nat.le_of_ble_eq_true rfl) dL_law_470 ⟨by show cells + 6 + 0 + 0 ≤ 601024; omega, by show slots + 1330 + 0 + 0 ≤ 7293034; omega⟩) (fun v Mt H locs hp hds hT => ?_)
  obtain ⟨r3, rfl, rfl, hM⟩ := hp
  refine W.eq (g2 := F0 m 473 ls (.int _ :: _)) rfl ?_
  refine lv_iload X.1 X.2.1 dL_law_473 (lv_at hl 1 rfl) ?_
  refine lv_icmp_eq X.1 X.2.1 (tgt := 480) dL_law_475 (by decide) (fun c475 => ?_) (fun c475 => absurd rfl c475)
  refine lv_iload X.1 X.2.1 dL_law_480 (lv_at hl 1 rfl) ?_
  refine lv_if_ne X.1 X.2.1 (tgt := 497) dL_law_482 (by decide) (fun c2 => ?_) (fun c2 => ?_)
  · skip
    refine lv_goto X.1 X.2.1 (tgt := 1495) dL_law_497 (by decide) ?_
    refine nx _ _ _ _ _ ?_
    exact ⟨b1, _, w1, _, Mx1, Mt, f1, e00, hA1, ho1, law_q (fun hc => st_ask hq hc) hq, hM, hd1, mw_ds_comm hds, by rw [mw_or_comm hds] at hT; exact hT, lv_sub hl [2, 3, 4, 5, 6] rfl, by show cells + 6 + 0 + 0 ≤ 100 + 20 * (k + 1); omega, by show slots + 1330 + 0 + 0 ≤ 100000 + 3000 * (k + 1); omega⟩
  · skip
    refine lv_aload_n X.1 X.2.1 dL_law_485 rfl (lv_at hl 6 rfl) ?_
    refine lv_iconst X.1 X.2.1 (v := 0) dL_law_486 (by decide) ?_
    refine mr_lald X hT (law_o hds hd1) (vp_in_nI (n := 0) (show 0 < 1 by decide) (by decide)) dL_law_487 ?_
    refine lv_iload X.1 X.2.1 dL_law_488 (lv_at hl 0 rfl) ?_
    refine lv_i2l X.1 X.2.1 dL_law_490 rfl ?_
    refine W.lcmp X.1 X.2.1 dL_law_491 ?_
    refine lv_if_eq X.1 X.2.1 (tgt := 497) dL_law_492 (by decide) (fun c3 => ?_) (fun c3 => absurd (law_cmp ((congrArg f1 law_0).trans (by rw [han c2, hans c2]))) c3)
    refine lv_goto X.1 X.2.1 (tgt := 1495) dL_law_497 (by decide) ?_
    refine nx _ _ _ _ _ ?_
    exact ⟨b1, _, w1, _, Mx1, Mt, f1, e00, hA1, ho1, law_q (fun hc => st_ask hq hc) hq, hM, hd1, mw_ds_comm hds, by rw [mw_or_comm hds] at hT; exact hT, lv_sub hl [2, 3, 4, 5, 6] rfl, by show cells + 6 + 0 + 0 ≤ 100 + 20 * (k + 1); omega, by show slots + 1330 + 0 + 0 ≤ 100000 + 3000 * (k + 1); omega⟩

set_option maxHeartbeats 4000000 in
set_option maxRecDepth 100000 in
theorem law_c5 {p : Program} {l : Launch} {e : Env} {s : State} {m : MethodId} {below : List Frame} {meth : Method} {c : Code} {G : mw_G} (hfl : l.stackTraces = false) (X : mw_B p l s m meth c code 7 RL G (fun q => s.heap.size ≤ q)) (hN : mw_N s) {b0 L : Nat} {xs : Nat → Int32} (hX : va_X b0 L xs s s.heap) (hbl : b0 < s.heap.size) {gx hm o : Nat} {ad : Nat → Nat} {k : Nat} {H : Heap} {locs : List Loc} {ls : Array Slot} {cells slots : Nat} (hk : k ≤ 511) (hkL : 4 * k + 4 ≤ L) (hL : L ≤ 2048) (hI : law_I G s b0 gx hm o ad k (4 * k) H locs ls cells slots) (nx : ∀ (H : Heap) (locs : List Loc) (ls : Array Slot) (cells slots : Nat), law_I G s b0 gx hm o ad (k + 1) (4 * k) H locs ls cells slots → W p l e room_1 s m #[Value.ref b0] below meth c H locs cells slots (lw_Z below #[Value.ref b0] s) (F0 m 1495 ls [])) : W p l e room_1 s m #[Value.ref b0] below meth c H locs cells slots (lw_Z below #[Value.ref b0] s) (F0 m 500 ls []) := by
  obtain ⟨b, x, w, lst, Mx, Mt, f, rfl, hA, ho, hq, hM, hd, hds, hT, hl, hce, hsl⟩ := hI
  have hbA : ¬ (fun q => s.heap.size ≤ q) b0 := Nat.not_le.mpr hbl
  have hi := q_inv_mono hq.1 hk
  refine lv_aload_n X.1 X.2.1 dL_law_500 rfl (lv_at hl 2 rfl) ?_
  refine lv_aload_n X.1 X.2.1 dL_law_501 rfl (lv_at hl 1 rfl) ?_
  refine lv_iload X.1 X.2.1 dL_law_502 (lv_at hl 0 rfl) ?_
  refine lv_iconst X.1 X.2.1 (v := 1) dL_law_504 (by decide) ?_
  refine lv_iadd X.1 X.2.1 dL_law_505 ?_
  refine mm_top (w := nI (4 * k + 1)) (nI_add _ 1) ?_
  refine va_sld X.1 X.2.1 hX hbl hbA hT.2.2 (vp_in_nI (n := 4 * k + 1) (by omega) (by omega)) dL_law_506 ?_
  refine mm_top (w := xs (4 * k + 1)) (by rw [nI_clamp (by omega)]) ?_
  refine lv_aload_n X.1 X.2.1 dL_law_507 rfl (lv_at hl 1 rfl) ?_
  refine lv_iload X.1 X.2.1 dL_law_508 (lv_at hl 0 rfl) ?_
  refine lv_iconst X.1 X.2.1 (v := 2) dL_law_510 (by decide) ?_
  refine lv_iadd X.1 X.2.1 dL_law_511 ?_
  refine mm_top (w := nI (4 * k + 2)) (nI_add _ 2) ?_
  refine va_sld X.1 X.2.1 hX hbl hbA hT.2.2 (vp_in_nI (n := 4 * k + 2) (by omega) (by omega)) dL_law_512 ?_
  refine mm_top (w := xs (4 * k + 2)) (by rw [nI_clamp (by omega)]) ?_
  refine lv_aload_n X.1 X.2.1 dL_law_513 rfl (lv_at hl 4 rfl) ?_
  refine mr_goX X hT hds (mr_runSN X hN hT cb_RL_112 kw487 kw488 (l_approve hfl hA ho hi hd) rfl rfl hl.1 ⟨Nat.le_of_ble_eq_true rfl, Nat.le_of_ble_eq_true rfl⟩ (Nat.le_of_ble_eq_true rfl) dL_law_514 ⟨by show cells + 6 ≤ 601024; omega, by show slots + 1328 ≤ 7293034; omega⟩) (fun E ce9 q9 H locs hp hT h1 h2 h3 => absurd hp id) (fun v M1 H locs hp hds hT => ?_)
  obtain ⟨r, rfl, Mx1, f1, rfl, rfl, hd1, ⟨b1, e00, w1, hA1, ho1⟩, han⟩ := hp
  refine W.eq (g2 := F0 m 517 ls (.int _ :: _)) rfl ?_
  rw [mw_or_comm hds] at hT
  have hds := mw_ds_comm hds
  refine lv_istore X.1 X.2.1 dL_law_517 hl (by decide) rfl (fun ls hl => ?_)
  refine lv_aload_n X.1 X.2.1 dL_law_519 rfl (lv_at hl 4 rfl) ?_
  refine lv_aload_n X.1 X.2.1 dL_law_520 rfl (lv_at hl 2 rfl) ?_
  refine lv_iload X.1 X.2.1 dL_law_521 (lv_at hl 1 rfl) ?_
  refine lv_iconst X.1 X.2.1 (v := 1) dL_law_523 (by decide) ?_
  refine lv_iadd X.1 X.2.1 dL_law_524 ?_
  refine mm_top (w := nI (4 * k + 1)) (nI_add _ 1) ?_
  refine va_sld X.1 X.2.1 hX hbl hbA hT.2.2 (vp_in_nI (n := 4 * k + 1) (by omega) (by omega)) dL_law_525 ?_
  refine mm_top (w := xs (4 * k + 1)) (by rw [nI_clamp (by omega)]) ?_
  refine lv_aload_n X.1 X.2.1 dL_law_526 rfl (lv_at hl 2 rfl) ?_
  refine lv_iload X.1 X.2.1 dL_law_527 (lv_at hl 1 rfl) ?_
  refine lv_iconst X.1 X.2.1 (v := 2) dL_law_529 (by decide) ?_
  refine lv_iadd X.1 X.2.1 dL_law_530 ?_
  refine mm_top (w := nI (4 * k + 2)) (nI_add _ 2) ?_
  refine va_sld X.1 X.2.1 hX hbl hbA hT.2.2 (vp_in_nI (n := 4 * k + 2) (by omega) (by omega)) dL_law_531 ?_
  refine mm_top (w := xs (4 * k + 2)) (by rw [nI_clamp (by omega)]) ?_
  refine mr_go X hT hds (mr_runV X hT cb_RL_114 kw902 kw903 kw904 (m_approve hfl hM hi) (mr_cell X hT (mw_or_l hM.1) rfl) rfl rfl hl.1 ⟨Nat.le_of_ble_eq_true rfl, Nat.le_of_ble_eq_true rfl⟩ (Nat.le_of_ble_eq_true rfl) dL_law_532 ⟨by show cells + 6 + 0 ≤ 601024; omega, by show slots + 1328 + 0 ≤ 7293034; omega⟩) (fun v Mt H locs hp hds hT => ?_)
  obtain ⟨r2, rfl, hans, hM⟩ := hp
  refine W.eq (g2 := F0 m 535 ls (.int _ :: _)) rfl ?_
  refine lv_istore X.1 X.2.1 dL_law_535 hl (by decide) rfl (fun ls hl => ?_)
  refine lv_aload_n X.1 X.2.1 dL_law_537 rfl (lv_at hl 5 rfl) ?_
  refine mr_go X hT hds (mr_runV X hT cb_RL_93 kw822 kw823 kw824 (m_thrown hfl hM) (mr_cell X hT (mw_or_l hM.1) rfl) rfl rfl hl.1 ⟨Nat.le_of_ble_eq_true rfl, Nat.le_of_ble_eq_true rfl⟩ (Nat.le_of_ble_eq_true rfl) dL_law_538 ⟨by show cells + 6 + 0 + 0 ≤ 601024; omega, by show slots + 1328 + 0 + 0 ≤ 7293034; omega⟩) (fun v Mt H locs hp hds hT => ?_)
  obtain ⟨r3, rfl, rfl, hM⟩ := hp
  refine W.eq (g2 := F0 m 541 ls (.int _ :: _)) rfl ?_
  refine lv_iload X.1 X.2.1 dL_law_541 (lv_at hl 1 rfl) ?_
  refine lv_icmp_eq X.1 X.2.1 (tgt := 548) dL_law_543 (by decide) (fun c543 => ?_) (fun c543 => absurd rfl c543)
  refine lv_iload X.1 X.2.1 dL_law_548 (lv_at hl 1 rfl) ?_
  refine lv_if_ne X.1 X.2.1 (tgt := 572) dL_law_550 (by decide) (fun c2 => ?_) (fun c2 => ?_)
  · skip
    refine lv_goto X.1 X.2.1 (tgt := 1495) dL_law_572 (by decide) ?_
    refine nx _ _ _ _ _ ?_
    exact ⟨b1, _, w1, _, Mx1, Mt, f1, e00, hA1, ho1, law_q (fun hc => st_approve hq hk hc) hq, hM, hd1, mw_ds_comm hds, by rw [mw_or_comm hds] at hT; exact hT, lv_sub hl [2, 3, 4, 5, 6] rfl, by show cells + 6 + 0 + 0 ≤ 100 + 20 * (k + 1); omega, by show slots + 1328 + 0 + 0 ≤ 100000 + 3000 * (k + 1); omega⟩
  · skip
    refine lv_aload_n X.1 X.2.1 dL_law_553 rfl (lv_at hl 6 rfl) ?_
    refine lv_iconst X.1 X.2.1 (v := 0) dL_law_554 (by decide) ?_
    refine mr_lald X hT (law_o hds hd1) (vp_in_nI (n := 0) (show 0 < 1 by decide) (by decide)) dL_law_555 ?_
    refine lv_iload X.1 X.2.1 dL_law_556 (lv_at hl 0 rfl) ?_
    refine lv_if_eq X.1 X.2.1 (tgt := 565) dL_law_558 (by decide) (fun c5 => ?_) (fun c5 => ?_)
    · skip
      refine lv_lconst X.1 X.2.1 (v := 0) dL_law_565 (by decide) ?_
      refine W.lcmp X.1 X.2.1 dL_law_566 ?_
      refine lv_if_eq X.1 X.2.1 (tgt := 572) dL_law_567 (by decide) (fun c3 => ?_) (fun c3 => absurd (law_cmp ((congrArg f1 law_0).trans (by rw [han c2, ← hans c2]; first | exact if_pos c5 | exact if_neg c5))) c3)
      refine lv_goto X.1 X.2.1 (tgt := 1495) dL_law_572 (by decide) ?_
      refine nx _ _ _ _ _ ?_
      exact ⟨b1, _, w1, _, Mx1, Mt, f1, e00, hA1, ho1, law_q (fun hc => st_approve hq hk hc) hq, hM, hd1, mw_ds_comm hds, by rw [mw_or_comm hds] at hT; exact hT, lv_sub hl [2, 3, 4, 5, 6] rfl, by show cells + 6 + 0 + 0 ≤ 100 + 20 * (k + 1); omega, by show slots + 1328 + 0 + 0 ≤ 100000 + 3000 * (k + 1); omega⟩
    · skip
      refine lv_lconst X.1 X.2.1 (v := 1) dL_law_561 (by decide) ?_
      refine lv_goto X.1 X.2.1 (tgt := 566) dL_law_562 (by decide) ?_
      refine W.lcmp X.1 X.2.1 dL_law_566 ?_
      refine lv_if_eq X.1 X.2.1 (tgt := 572) dL_law_567 (by decide) (fun c3 => ?_) (fun c3 => absurd (law_cmp ((congrArg f1 law_0).trans (by rw [han c2, ← hans c2]; first | exact if_pos c5 | exact if_neg c5))) c3)
      refine lv_goto X.1 X.2.1 (tgt := 1495) dL_law_572 (by decide) ?_
      refine nx _ _ _ _ _ ?_
      exact ⟨b1, _, w1, _, Mx1, Mt, f1, e00, hA1, ho1, law_q (fun hc => st_approve hq hk hc) hq, hM, hd1, mw_ds_comm hds, by rw [mw_or_comm hds] at hT; exact hT, lv_sub hl [2, 3, 4, 5, 6] rfl, by show cells + 6 + 0 + 0 ≤ 100 + 20 * (k + 1); omega, by show slots + 1328 + 0 + 0 ≤ 100000 + 3000 * (k + 1); omega⟩

set_option maxHeartbeats 4000000 in
set_option maxRecDepth 100000 in
theorem law_c6 {p : Program} {l : Launch} {e : Env} {s : State} {m : MethodId} {below : List Frame} {meth : Method} {c : Code} {G : mw_G} (hfl : l.stackTraces = false) (X : mw_B p l s m meth c code 7 RL G (fun q => s.heap.size ≤ q)) (hN : mw_N s) {b0 L : Nat} {xs : Nat → Int32} (hX : va_X b0 L xs s s.heap) (hbl : b0 < s.heap.size) {gx hm o : Nat} {ad : Nat → Nat} {k : Nat} {H : Heap} {locs : List Loc} {ls : Array Slot} {cells slots : Nat} (hk : k ≤ 511) (hkL : 4 * k + 4 ≤ L) (hL : L ≤ 2048) (hI : law_I G s b0 gx hm o ad k (4 * k) H locs ls cells slots) (nx : ∀ (H : Heap) (locs : List Loc) (ls : Array Slot) (cells slots : Nat), law_I G s b0 gx hm o ad (k + 1) (4 * k) H locs ls cells slots → W p l e room_1 s m #[Value.ref b0] below meth c H locs cells slots (lw_Z below #[Value.ref b0] s) (F0 m 1495 ls [])) : W p l e room_1 s m #[Value.ref b0] below meth c H locs cells slots (lw_Z below #[Value.ref b0] s) (F0 m 575 ls []) := by
  obtain ⟨b, x, w, lst, Mx, Mt, f, rfl, hA, ho, hq, hM, hd, hds, hT, hl, hce, hsl⟩ := hI
  have hbA : ¬ (fun q => s.heap.size ≤ q) b0 := Nat.not_le.mpr hbl
  have hi := q_inv_mono hq.1 hk
  refine lv_aload_n X.1 X.2.1 dL_law_575 rfl (lv_at hl 2 rfl) ?_
  refine lv_aload_n X.1 X.2.1 dL_law_576 rfl (lv_at hl 1 rfl) ?_
  refine lv_iload X.1 X.2.1 dL_law_577 (lv_at hl 0 rfl) ?_
  refine lv_iconst X.1 X.2.1 (v := 1) dL_law_579 (by decide) ?_
  refine lv_iadd X.1 X.2.1 dL_law_580 ?_
  refine mm_top (w := nI (4 * k + 1)) (nI_add _ 1) ?_
  refine va_sld X.1 X.2.1 hX hbl hbA hT.2.2 (vp_in_nI (n := 4 * k + 1) (by omega) (by omega)) dL_law_581 ?_
  refine mm_top (w := xs (4 * k + 1)) (by rw [nI_clamp (by omega)]) ?_
  refine lv_aload_n X.1 X.2.1 dL_law_582 rfl (lv_at hl 1 rfl) ?_
  refine lv_iload X.1 X.2.1 dL_law_583 (lv_at hl 0 rfl) ?_
  refine lv_iconst X.1 X.2.1 (v := 2) dL_law_585 (by decide) ?_
  refine lv_iadd X.1 X.2.1 dL_law_586 ?_
  refine mm_top (w := nI (4 * k + 2)) (nI_add _ 2) ?_
  refine va_sld X.1 X.2.1 hX hbl hbA hT.2.2 (vp_in_nI (n := 4 * k + 2) (by omega) (by omega)) dL_law_587 ?_
  refine mm_top (w := xs (4 * k + 2)) (by rw [nI_clamp (by omega)]) ?_
  refine mr_goX X hT hds (mr_runSN X hN hT cb_RL_115 kw531 kw532 (l_deny hfl hA ho hi hd) rfl rfl hl.1 ⟨Nat.le_of_ble_eq_true rfl, Nat.le_of_ble_eq_true rfl⟩ (Nat.le_of_ble_eq_true rfl) dL_law_588 ⟨by show cells + 3 ≤ 601024; omega, by show slots + 18 ≤ 7293034; omega⟩) (fun E ce9 q9 H locs hp hT h1 h2 h3 => absurd hp id) (fun v M1 H locs hp hds hT => ?_)
  obtain ⟨r, rfl, Mx1, f1, rfl, rfl, hd1, ⟨b1, e00, w1, hA1, ho1⟩, han⟩ := hp
  refine W.eq (g2 := F0 m 591 ls (.int _ :: _)) rfl ?_
  rw [mw_or_comm hds] at hT
  have hds := mw_ds_comm hds
  refine lv_istore X.1 X.2.1 dL_law_591 hl (by decide) rfl (fun ls hl => ?_)
  refine lv_aload_n X.1 X.2.1 dL_law_593 rfl (lv_at hl 4 rfl) ?_
  refine lv_aload_n X.1 X.2.1 dL_law_594 rfl (lv_at hl 2 rfl) ?_
  refine lv_iload X.1 X.2.1 dL_law_595 (lv_at hl 1 rfl) ?_
  refine lv_iconst X.1 X.2.1 (v := 1) dL_law_597 (by decide) ?_
  refine lv_iadd X.1 X.2.1 dL_law_598 ?_
  refine mm_top (w := nI (4 * k + 1)) (nI_add _ 1) ?_
  refine va_sld X.1 X.2.1 hX hbl hbA hT.2.2 (vp_in_nI (n := 4 * k + 1) (by omega) (by omega)) dL_law_599 ?_
  refine mm_top (w := xs (4 * k + 1)) (by rw [nI_clamp (by omega)]) ?_
  refine lv_aload_n X.1 X.2.1 dL_law_600 rfl (lv_at hl 2 rfl) ?_
  refine lv_iload X.1 X.2.1 dL_law_601 (lv_at hl 1 rfl) ?_
  refine lv_iconst X.1 X.2.1 (v := 2) dL_law_603 (by decide) ?_
  refine lv_iadd X.1 X.2.1 dL_law_604 ?_
  refine mm_top (w := nI (4 * k + 2)) (nI_add _ 2) ?_
  refine va_sld X.1 X.2.1 hX hbl hbA hT.2.2 (vp_in_nI (n := 4 * k + 2) (by omega) (by omega)) dL_law_605 ?_
  refine mm_top (w := xs (4 * k + 2)) (by rw [nI_clamp (by omega)]) ?_
  refine mr_go X hT hds (mr_runV X hT cb_RL_118 kw918 kw919 kw920 (m_deny hfl hM hi) (mr_cell X hT (mw_or_l hM.1) rfl) rfl rfl hl.1 ⟨Nat.le_of_ble_eq_true rfl, Nat.le_of_ble_eq_true rfl⟩ (Nat.le_of_ble_eq_true rfl) dL_law_606 ⟨by show cells + 3 + 0 ≤ 601024; omega, by show slots + 18 + 0 ≤ 7293034; omega⟩) (fun v Mt H locs hp hds hT => ?_)
  obtain ⟨rfl, hM⟩ := hp
  refine W.eq (g2 := F0 m 609 ls _) rfl ?_
  refine lv_aload_n X.1 X.2.1 dL_law_609 rfl (lv_at hl 4 rfl) ?_
  refine mr_go X hT hds (mr_runV X hT cb_RL_93 kw822 kw823 kw824 (m_thrown hfl hM) (mr_cell X hT (mw_or_l hM.1) rfl) rfl rfl hl.1 ⟨Nat.le_of_ble_eq_true rfl, Nat.le_of_ble_eq_true rfl⟩ (Nat.le_of_ble_eq_true rfl) dL_law_610 ⟨by show cells + 3 + 0 + 0 ≤ 601024; omega, by show slots + 18 + 0 + 0 ≤ 7293034; omega⟩) (fun v Mt H locs hp hds hT => ?_)
  obtain ⟨r3, rfl, rfl, hM⟩ := hp
  refine W.eq (g2 := F0 m 613 ls (.int _ :: _)) rfl ?_
  refine lv_iload X.1 X.2.1 dL_law_613 (lv_at hl 0 rfl) ?_
  refine lv_icmp_eq X.1 X.2.1 (tgt := 620) dL_law_615 (by decide) (fun c615 => ?_) (fun c615 => absurd rfl c615)
  refine lv_goto X.1 X.2.1 (tgt := 1495) dL_law_620 (by decide) ?_
  refine nx _ _ _ _ _ ?_
  exact ⟨b1, _, w1, _, Mx1, Mt, f1, e00, hA1, ho1, law_q (fun hc => st_deny hq) hq, hM, hd1, mw_ds_comm hds, by rw [mw_or_comm hds] at hT; exact hT, lv_sub hl [1, 2, 3, 4, 5] rfl, by show cells + 3 + 0 + 0 ≤ 100 + 20 * (k + 1); omega, by show slots + 18 + 0 + 0 ≤ 100000 + 3000 * (k + 1); omega⟩

set_option maxHeartbeats 4000000 in
set_option maxRecDepth 100000 in
theorem law_c7 {p : Program} {l : Launch} {e : Env} {s : State} {m : MethodId} {below : List Frame} {meth : Method} {c : Code} {G : mw_G} (hfl : l.stackTraces = false) (X : mw_B p l s m meth c code 7 RL G (fun q => s.heap.size ≤ q)) (hN : mw_N s) {b0 L : Nat} {xs : Nat → Int32} (hX : va_X b0 L xs s s.heap) (hbl : b0 < s.heap.size) {gx hm o : Nat} {ad : Nat → Nat} {k : Nat} {H : Heap} {locs : List Loc} {ls : Array Slot} {cells slots : Nat} (hk : k ≤ 511) (hkL : 4 * k + 4 ≤ L) (hL : L ≤ 2048) (hI : law_I G s b0 gx hm o ad k (4 * k) H locs ls cells slots) (nx : ∀ (H : Heap) (locs : List Loc) (ls : Array Slot) (cells slots : Nat), law_I G s b0 gx hm o ad (k + 1) (4 * k) H locs ls cells slots → W p l e room_1 s m #[Value.ref b0] below meth c H locs cells slots (lw_Z below #[Value.ref b0] s) (F0 m 1495 ls [])) : W p l e room_1 s m #[Value.ref b0] below meth c H locs cells slots (lw_Z below #[Value.ref b0] s) (F0 m 623 ls []) := by
  obtain ⟨b, x, w, lst, Mx, Mt, f, rfl, hA, ho, hq, hM, hd, hds, hT, hl, hce, hsl⟩ := hI
  have hbA : ¬ (fun q => s.heap.size ≤ q) b0 := Nat.not_le.mpr hbl
  have hi := q_inv_mono hq.1 hk
  refine lv_aload_n X.1 X.2.1 dL_law_623 rfl (lv_at hl 2 rfl) ?_
  refine lv_aload_n X.1 X.2.1 dL_law_624 rfl (lv_at hl 1 rfl) ?_
  refine lv_iload X.1 X.2.1 dL_law_625 (lv_at hl 0 rfl) ?_
  refine lv_iconst X.1 X.2.1 (v := 1) dL_law_627 (by decide) ?_
  refine lv_iadd X.1 X.2.1 dL_law_628 ?_
  refine mm_top (w := nI (4 * k + 1)) (nI_add _ 1) ?_
  refine va_sld X.1 X.2.1 hX hbl hbA hT.2.2 (vp_in_nI (n := 4 * k + 1) (by omega) (by omega)) dL_law_629 ?_
  refine mm_top (w := xs (4 * k + 1)) (by rw [nI_clamp (by omega)]) ?_
  refine lv_aload_n X.1 X.2.1 dL_law_630 rfl (lv_at hl 4 rfl) ?_
  refine mr_goX X hT hds (mr_runSN X hN hT cb_RL_119 kw538 kw539 (l_askState hfl hA ho hi hd) rfl rfl hl.1 ⟨Nat.le_of_ble_eq_true rfl, Nat.le_of_ble_eq_true rfl⟩ (Nat.le_of_ble_eq_true rfl) dL_law_631 ⟨by show cells + 1 ≤ 601024; omega, by show slots + 6 ≤ 7293034; omega⟩) (fun E ce9 q9 H locs hp hT h1 h2 h3 => absurd hp id) (fun v M1 H locs hp hds hT => ?_)
  obtain ⟨r, rfl, Mx1, f1, rfl, rfl, hd1, ⟨b1, e00, w1, hA1, ho1⟩, han⟩ := hp
  refine W.eq (g2 := F0 m 634 ls (.int _ :: _)) rfl ?_
  rw [mw_or_comm hds] at hT
  have hds := mw_ds_comm hds
  refine lv_istore X.1 X.2.1 dL_law_634 hl (by decide) rfl (fun ls hl => ?_)
  refine lv_aload_n X.1 X.2.1 dL_law_636 rfl (lv_at hl 4 rfl) ?_
  refine lv_aload_n X.1 X.2.1 dL_law_637 rfl (lv_at hl 2 rfl) ?_
  refine lv_iload X.1 X.2.1 dL_law_638 (lv_at hl 1 rfl) ?_
  refine lv_iconst X.1 X.2.1 (v := 1) dL_law_640 (by decide) ?_
  refine lv_iadd X.1 X.2.1 dL_law_641 ?_
  refine mm_top (w := nI (4 * k + 1)) (nI_add _ 1) ?_
  refine va_sld X.1 X.2.1 hX hbl hbA hT.2.2 (vp_in_nI (n := 4 * k + 1) (by omega) (by omega)) dL_law_642 ?_
  refine mm_top (w := xs (4 * k + 1)) (by rw [nI_clamp (by omega)]) ?_
  refine mr_go X hT hds (mr_runV X hT cb_RL_121 kw922 kw923 kw924 (m_askState hfl hM hi) (mr_cell X hT (mw_or_l hM.1) rfl) rfl rfl hl.1 ⟨Nat.le_of_ble_eq_true rfl, Nat.le_of_ble_eq_true rfl⟩ (Nat.le_of_ble_eq_true rfl) dL_law_643 ⟨by show cells + 1 + 0 ≤ 601024; omega, by show slots + 6 + 0 ≤ 7293034; omega⟩) (fun v Mt H locs hp hds hT => ?_)
  obtain ⟨r2, rfl, hans, hM⟩ := hp
  refine W.eq (g2 := F0 m 646 ls (.int _ :: _)) rfl ?_
  refine lv_istore X.1 X.2.1 dL_law_646 hl (by decide) rfl (fun ls hl => ?_)
  refine lv_aload_n X.1 X.2.1 dL_law_648 rfl (lv_at hl 5 rfl) ?_
  refine mr_go X hT hds (mr_runV X hT cb_RL_93 kw822 kw823 kw824 (m_thrown hfl hM) (mr_cell X hT (mw_or_l hM.1) rfl) rfl rfl hl.1 ⟨Nat.le_of_ble_eq_true rfl, Nat.le_of_ble_eq_true rfl⟩ (Nat.le_of_ble_eq_true rfl) dL_law_649 ⟨by show cells + 1 + 0 + 0 ≤ 601024; omega, by show slots + 6 + 0 + 0 ≤ 7293034; omega⟩) (fun v Mt H locs hp hds hT => ?_)
  obtain ⟨r3, rfl, rfl, hM⟩ := hp
  refine W.eq (g2 := F0 m 652 ls (.int _ :: _)) rfl ?_
  refine lv_iload X.1 X.2.1 dL_law_652 (lv_at hl 1 rfl) ?_
  refine lv_icmp_eq X.1 X.2.1 (tgt := 659) dL_law_654 (by decide) (fun c654 => ?_) (fun c654 => absurd rfl c654)
  refine lv_iload X.1 X.2.1 dL_law_659 (lv_at hl 1 rfl) ?_
  refine lv_if_ne X.1 X.2.1 (tgt := 676) dL_law_661 (by decide) (fun c2 => ?_) (fun c2 => ?_)
  · skip
    refine lv_goto X.1 X.2.1 (tgt := 1495) dL_law_676 (by decide) ?_
    refine nx _ _ _ _ _ ?_
    exact ⟨b1, _, w1, _, Mx1, Mt, f1, e00, hA1, ho1, law_q (fun hc => st_same hq) hq, hM, hd1, mw_ds_comm hds, by rw [mw_or_comm hds] at hT; exact hT, lv_sub hl [2, 3, 4, 5, 6] rfl, by show cells + 1 + 0 + 0 ≤ 100 + 20 * (k + 1); omega, by show slots + 6 + 0 + 0 ≤ 100000 + 3000 * (k + 1); omega⟩
  · skip
    refine lv_aload_n X.1 X.2.1 dL_law_664 rfl (lv_at hl 6 rfl) ?_
    refine lv_iconst X.1 X.2.1 (v := 0) dL_law_665 (by decide) ?_
    refine mr_lald X hT (law_o hds hd1) (vp_in_nI (n := 0) (show 0 < 1 by decide) (by decide)) dL_law_666 ?_
    refine lv_iload X.1 X.2.1 dL_law_667 (lv_at hl 0 rfl) ?_
    refine lv_i2l X.1 X.2.1 dL_law_669 rfl ?_
    refine W.lcmp X.1 X.2.1 dL_law_670 ?_
    refine lv_if_eq X.1 X.2.1 (tgt := 676) dL_law_671 (by decide) (fun c3 => ?_) (fun c3 => absurd (law_cmp ((congrArg f1 law_0).trans (by rw [han c2, hans c2]))) c3)
    refine lv_goto X.1 X.2.1 (tgt := 1495) dL_law_676 (by decide) ?_
    refine nx _ _ _ _ _ ?_
    exact ⟨b1, _, w1, _, Mx1, Mt, f1, e00, hA1, ho1, law_q (fun hc => st_same hq) hq, hM, hd1, mw_ds_comm hds, by rw [mw_or_comm hds] at hT; exact hT, lv_sub hl [2, 3, 4, 5, 6] rfl, by show cells + 1 + 0 + 0 ≤ 100 + 20 * (k + 1); omega, by show slots + 6 + 0 + 0 ≤ 100000 + 3000 * (k + 1); omega⟩

set_option maxHeartbeats 4000000 in
set_option maxRecDepth 100000 in
theorem law_c8 {p : Program} {l : Launch} {e : Env} {s : State} {m : MethodId} {below : List Frame} {meth : Method} {c : Code} {G : mw_G} (hfl : l.stackTraces = false) (X : mw_B p l s m meth c code 7 RL G (fun q => s.heap.size ≤ q)) (hN : mw_N s) {b0 L : Nat} {xs : Nat → Int32} (hX : va_X b0 L xs s s.heap) (hbl : b0 < s.heap.size) {gx hm o : Nat} {ad : Nat → Nat} {k : Nat} {H : Heap} {locs : List Loc} {ls : Array Slot} {cells slots : Nat} (hk : k ≤ 511) (hkL : 4 * k + 4 ≤ L) (hL : L ≤ 2048) (hI : law_I G s b0 gx hm o ad k (4 * k) H locs ls cells slots) (nx : ∀ (H : Heap) (locs : List Loc) (ls : Array Slot) (cells slots : Nat), law_I G s b0 gx hm o ad (k + 1) (4 * k) H locs ls cells slots → W p l e room_1 s m #[Value.ref b0] below meth c H locs cells slots (lw_Z below #[Value.ref b0] s) (F0 m 1495 ls [])) : W p l e room_1 s m #[Value.ref b0] below meth c H locs cells slots (lw_Z below #[Value.ref b0] s) (F0 m 679 ls []) := by
  obtain ⟨b, x, w, lst, Mx, Mt, f, rfl, hA, ho, hq, hM, hd, hds, hT, hl, hce, hsl⟩ := hI
  have hbA : ¬ (fun q => s.heap.size ≤ q) b0 := Nat.not_le.mpr hbl
  have hi := q_inv_mono hq.1 hk
  refine lv_aload_n X.1 X.2.1 dL_law_679 rfl (lv_at hl 2 rfl) ?_
  refine lv_aload_n X.1 X.2.1 dL_law_680 rfl (lv_at hl 1 rfl) ?_
  refine lv_iload X.1 X.2.1 dL_law_681 (lv_at hl 0 rfl) ?_
  refine lv_iconst X.1 X.2.1 (v := 1) dL_law_683 (by decide) ?_
  refine lv_iadd X.1 X.2.1 dL_law_684 ?_
  refine mm_top (w := nI (4 * k + 1)) (nI_add _ 1) ?_
  refine va_sld X.1 X.2.1 hX hbl hbA hT.2.2 (vp_in_nI (n := 4 * k + 1) (by omega) (by omega)) dL_law_685 ?_
  refine mm_top (w := xs (4 * k + 1)) (by rw [nI_clamp (by omega)]) ?_
  refine lv_aload_n X.1 X.2.1 dL_law_686 rfl (lv_at hl 1 rfl) ?_
  refine lv_iload X.1 X.2.1 dL_law_687 (lv_at hl 0 rfl) ?_
  refine lv_iconst X.1 X.2.1 (v := 2) dL_law_689 (by decide) ?_
  refine lv_iadd X.1 X.2.1 dL_law_690 ?_
  refine mm_top (w := nI (4 * k + 2)) (nI_add _ 2) ?_
  refine va_sld X.1 X.2.1 hX hbl hbA hT.2.2 (vp_in_nI (n := 4 * k + 2) (by omega) (by omega)) dL_law_691 ?_
  refine mm_top (w := xs (4 * k + 2)) (by rw [nI_clamp (by omega)]) ?_
  refine lv_aload_n X.1 X.2.1 dL_law_692 rfl (lv_at hl 4 rfl) ?_
  refine mr_goX X hT hds (mr_runSN X hN hT cb_RL_122 kw545 kw546 (l_enter hfl hA ho hi hd) rfl rfl hl.1 ⟨Nat.le_of_ble_eq_true rfl, Nat.le_of_ble_eq_true rfl⟩ (Nat.le_of_ble_eq_true rfl) dL_law_693 ⟨by show cells + 7 ≤ 601024; omega, by show slots + 2626 ≤ 7293034; omega⟩) (fun E ce9 q9 H locs hp hT h1 h2 h3 => absurd hp id) (fun v M1 H locs hp hds hT => ?_)
  obtain ⟨r, rfl, Mx1, f1, rfl, rfl, hd1, ⟨b1, e00, w1, hA1, ho1⟩, han⟩ := hp
  refine W.eq (g2 := F0 m 696 ls (.int _ :: _)) rfl ?_
  rw [mw_or_comm hds] at hT
  have hds := mw_ds_comm hds
  refine lv_istore X.1 X.2.1 dL_law_696 hl (by decide) rfl (fun ls hl => ?_)
  refine lv_aload_n X.1 X.2.1 dL_law_698 rfl (lv_at hl 4 rfl) ?_
  refine lv_aload_n X.1 X.2.1 dL_law_699 rfl (lv_at hl 2 rfl) ?_
  refine lv_iload X.1 X.2.1 dL_law_700 (lv_at hl 1 rfl) ?_
  refine lv_iconst X.1 X.2.1 (v := 1) dL_law_702 (by decide) ?_
  refine lv_iadd X.1 X.2.1 dL_law_703 ?_
  refine mm_top (w := nI (4 * k + 1)) (nI_add _ 1) ?_
  refine va_sld X.1 X.2.1 hX hbl hbA hT.2.2 (vp_in_nI (n := 4 * k + 1) (by omega) (by omega)) dL_law_704 ?_
  refine mm_top (w := xs (4 * k + 1)) (by rw [nI_clamp (by omega)]) ?_
  refine lv_aload_n X.1 X.2.1 dL_law_705 rfl (lv_at hl 2 rfl) ?_
  refine lv_iload X.1 X.2.1 dL_law_706 (lv_at hl 1 rfl) ?_
  refine lv_iconst X.1 X.2.1 (v := 2) dL_law_708 (by decide) ?_
  refine lv_iadd X.1 X.2.1 dL_law_709 ?_
  refine mm_top (w := nI (4 * k + 2)) (nI_add _ 2) ?_
  refine va_sld X.1 X.2.1 hX hbl hbA hT.2.2 (vp_in_nI (n := 4 * k + 2) (by omega) (by omega)) dL_law_710 ?_
  refine mm_top (w := xs (4 * k + 2)) (by rw [nI_clamp (by omega)]) ?_
  refine mr_go X hT hds (mr_runV X hT cb_RL_124 kw926 kw927 kw928 (m_enter hfl hM hi) (mr_cell X hT (mw_or_l hM.1) rfl) rfl rfl hl.1 ⟨Nat.le_of_ble_eq_true rfl, Nat.le_of_ble_eq_true rfl⟩ (Nat.le_of_ble_eq_true rfl) dL_law_711 ⟨by show cells + 7 + 0 ≤ 601024; omega, by show slots + 2626 + 0 ≤ 7293034; omega⟩) (fun v Mt H locs hp hds hT => ?_)
  obtain ⟨r2, rfl, hans, hM⟩ := hp
  refine W.eq (g2 := F0 m 714 ls (.int _ :: _)) rfl ?_
  refine lv_istore X.1 X.2.1 dL_law_714 hl (by decide) rfl (fun ls hl => ?_)
  refine lv_aload_n X.1 X.2.1 dL_law_716 rfl (lv_at hl 5 rfl) ?_
  refine mr_go X hT hds (mr_runV X hT cb_RL_93 kw822 kw823 kw824 (m_thrown hfl hM) (mr_cell X hT (mw_or_l hM.1) rfl) rfl rfl hl.1 ⟨Nat.le_of_ble_eq_true rfl, Nat.le_of_ble_eq_true rfl⟩ (Nat.le_of_ble_eq_true rfl) dL_law_717 ⟨by show cells + 7 + 0 + 0 ≤ 601024; omega, by show slots + 2626 + 0 + 0 ≤ 7293034; omega⟩) (fun v Mt H locs hp hds hT => ?_)
  obtain ⟨r3, rfl, rfl, hM⟩ := hp
  refine W.eq (g2 := F0 m 720 ls (.int _ :: _)) rfl ?_
  refine lv_iload X.1 X.2.1 dL_law_720 (lv_at hl 1 rfl) ?_
  refine lv_icmp_eq X.1 X.2.1 (tgt := 727) dL_law_722 (by decide) (fun c722 => ?_) (fun c722 => absurd rfl c722)
  refine lv_iload X.1 X.2.1 dL_law_727 (lv_at hl 1 rfl) ?_
  refine lv_if_ne X.1 X.2.1 (tgt := 744) dL_law_729 (by decide) (fun c2 => ?_) (fun c2 => ?_)
  · skip
    refine lv_goto X.1 X.2.1 (tgt := 1495) dL_law_744 (by decide) ?_
    refine nx _ _ _ _ _ ?_
    exact ⟨b1, _, w1, _, Mx1, Mt, f1, e00, hA1, ho1, law_q (fun hc => st_enter hq hc) hq, hM, hd1, mw_ds_comm hds, by rw [mw_or_comm hds] at hT; exact hT, lv_sub hl [2, 3, 4, 5, 6] rfl, by show cells + 7 + 0 + 0 ≤ 100 + 20 * (k + 1); omega, by show slots + 2626 + 0 + 0 ≤ 100000 + 3000 * (k + 1); omega⟩
  · skip
    refine lv_aload_n X.1 X.2.1 dL_law_732 rfl (lv_at hl 6 rfl) ?_
    refine lv_iconst X.1 X.2.1 (v := 0) dL_law_733 (by decide) ?_
    refine mr_lald X hT (law_o hds hd1) (vp_in_nI (n := 0) (show 0 < 1 by decide) (by decide)) dL_law_734 ?_
    refine lv_iload X.1 X.2.1 dL_law_735 (lv_at hl 0 rfl) ?_
    refine lv_i2l X.1 X.2.1 dL_law_737 rfl ?_
    refine W.lcmp X.1 X.2.1 dL_law_738 ?_
    refine lv_if_eq X.1 X.2.1 (tgt := 744) dL_law_739 (by decide) (fun c3 => ?_) (fun c3 => absurd (law_cmp ((congrArg f1 law_0).trans (by rw [han c2, hans c2]))) c3)
    refine lv_goto X.1 X.2.1 (tgt := 1495) dL_law_744 (by decide) ?_
    refine nx _ _ _ _ _ ?_
    exact ⟨b1, _, w1, _, Mx1, Mt, f1, e00, hA1, ho1, law_q (fun hc => st_enter hq hc) hq, hM, hd1, mw_ds_comm hds, by rw [mw_or_comm hds] at hT; exact hT, lv_sub hl [2, 3, 4, 5, 6] rfl, by show cells + 7 + 0 + 0 ≤ 100 + 20 * (k + 1); omega, by show slots + 2626 + 0 + 0 ≤ 100000 + 3000 * (k + 1); omega⟩

set_option maxHeartbeats 4000000 in
set_option maxRecDepth 100000 in
theorem law_c9 {p : Program} {l : Launch} {e : Env} {s : State} {m : MethodId} {below : List Frame} {meth : Method} {c : Code} {G : mw_G} (hfl : l.stackTraces = false) (X : mw_B p l s m meth c code 7 RL G (fun q => s.heap.size ≤ q)) (hN : mw_N s) {b0 L : Nat} {xs : Nat → Int32} (hX : va_X b0 L xs s s.heap) (hbl : b0 < s.heap.size) {gx hm o : Nat} {ad : Nat → Nat} {k : Nat} {H : Heap} {locs : List Loc} {ls : Array Slot} {cells slots : Nat} (hk : k ≤ 511) (hkL : 4 * k + 4 ≤ L) (hL : L ≤ 2048) (hI : law_I G s b0 gx hm o ad k (4 * k) H locs ls cells slots) (nx : ∀ (H : Heap) (locs : List Loc) (ls : Array Slot) (cells slots : Nat), law_I G s b0 gx hm o ad (k + 1) (4 * k) H locs ls cells slots → W p l e room_1 s m #[Value.ref b0] below meth c H locs cells slots (lw_Z below #[Value.ref b0] s) (F0 m 1495 ls [])) : W p l e room_1 s m #[Value.ref b0] below meth c H locs cells slots (lw_Z below #[Value.ref b0] s) (F0 m 747 ls []) := by
  obtain ⟨b, x, w, lst, Mx, Mt, f, rfl, hA, ho, hq, hM, hd, hds, hT, hl, hce, hsl⟩ := hI
  have hbA : ¬ (fun q => s.heap.size ≤ q) b0 := Nat.not_le.mpr hbl
  have hi := q_inv_mono hq.1 hk
  refine lv_aload_n X.1 X.2.1 dL_law_747 rfl (lv_at hl 2 rfl) ?_
  refine lv_aload_n X.1 X.2.1 dL_law_748 rfl (lv_at hl 1 rfl) ?_
  refine lv_iload X.1 X.2.1 dL_law_749 (lv_at hl 0 rfl) ?_
  refine lv_iconst X.1 X.2.1 (v := 1) dL_law_751 (by decide) ?_
  refine lv_iadd X.1 X.2.1 dL_law_752 ?_
  refine mm_top (w := nI (4 * k + 1)) (nI_add _ 1) ?_
  refine va_sld X.1 X.2.1 hX hbl hbA hT.2.2 (vp_in_nI (n := 4 * k + 1) (by omega) (by omega)) dL_law_753 ?_
  refine mm_top (w := xs (4 * k + 1)) (by rw [nI_clamp (by omega)]) ?_
  refine lv_aload_n X.1 X.2.1 dL_law_754 rfl (lv_at hl 1 rfl) ?_
  refine lv_iload X.1 X.2.1 dL_law_755 (lv_at hl 0 rfl) ?_
  refine lv_iconst X.1 X.2.1 (v := 2) dL_law_757 (by decide) ?_
  refine lv_iadd X.1 X.2.1 dL_law_758 ?_
  refine mm_top (w := nI (4 * k + 2)) (nI_add _ 2) ?_
  refine va_sld X.1 X.2.1 hX hbl hbA hT.2.2 (vp_in_nI (n := 4 * k + 2) (by omega) (by omega)) dL_law_759 ?_
  refine mm_top (w := xs (4 * k + 2)) (by rw [nI_clamp (by omega)]) ?_
  refine lv_aload_n X.1 X.2.1 dL_law_760 rfl (lv_at hl 4 rfl) ?_
  refine mr_goX X hT hds (mr_runSN X hN hT cb_RL_125 kw573 kw574 (l_lookAt hfl hA ho hi hd) rfl rfl hl.1 ⟨Nat.le_of_ble_eq_true rfl, Nat.le_of_ble_eq_true rfl⟩ (Nat.le_of_ble_eq_true rfl) dL_law_761 ⟨by show cells + 3 ≤ 601024; omega, by show slots + 18 ≤ 7293034; omega⟩) (fun E ce9 q9 H locs hp hT h1 h2 h3 => absurd hp id) (fun v M1 H locs hp hds hT => ?_)
  obtain ⟨r, rfl, Mx1, f1, rfl, rfl, hd1, ⟨b1, e00, w1, hA1, ho1⟩, han⟩ := hp
  refine W.eq (g2 := F0 m 764 ls (.int _ :: _)) rfl ?_
  rw [mw_or_comm hds] at hT
  have hds := mw_ds_comm hds
  refine lv_istore X.1 X.2.1 dL_law_764 hl (by decide) rfl (fun ls hl => ?_)
  refine lv_aload_n X.1 X.2.1 dL_law_766 rfl (lv_at hl 4 rfl) ?_
  refine lv_aload_n X.1 X.2.1 dL_law_767 rfl (lv_at hl 2 rfl) ?_
  refine lv_iload X.1 X.2.1 dL_law_768 (lv_at hl 1 rfl) ?_
  refine lv_iconst X.1 X.2.1 (v := 1) dL_law_770 (by decide) ?_
  refine lv_iadd X.1 X.2.1 dL_law_771 ?_
  refine mm_top (w := nI (4 * k + 1)) (nI_add _ 1) ?_
  refine va_sld X.1 X.2.1 hX hbl hbA hT.2.2 (vp_in_nI (n := 4 * k + 1) (by omega) (by omega)) dL_law_772 ?_
  refine mm_top (w := xs (4 * k + 1)) (by rw [nI_clamp (by omega)]) ?_
  refine lv_aload_n X.1 X.2.1 dL_law_773 rfl (lv_at hl 2 rfl) ?_
  refine lv_iload X.1 X.2.1 dL_law_774 (lv_at hl 1 rfl) ?_
  refine lv_iconst X.1 X.2.1 (v := 2) dL_law_776 (by decide) ?_
  refine lv_iadd X.1 X.2.1 dL_law_777 ?_
  refine mm_top (w := nI (4 * k + 2)) (nI_add _ 2) ?_
  refine va_sld X.1 X.2.1 hX hbl hbA hT.2.2 (vp_in_nI (n := 4 * k + 2) (by omega) (by omega)) dL_law_778 ?_
  refine mm_top (w := xs (4 * k + 2)) (by rw [nI_clamp (by omega)]) ?_
  refine mr_go X hT hds (mr_runV X hT cb_RL_127 kw930 kw931 kw932 (m_lookAt hfl hM hi) (mr_cell X hT (mw_or_l hM.1) rfl) rfl rfl hl.1 ⟨Nat.le_of_ble_eq_true rfl, Nat.le_of_ble_eq_true rfl⟩ (Nat.le_of_ble_eq_true rfl) dL_law_779 ⟨by show cells + 3 + 0 ≤ 601024; omega, by show slots + 18 + 0 ≤ 7293034; omega⟩) (fun v Mt H locs hp hds hT => ?_)
  obtain ⟨r2, rfl, hans, hM⟩ := hp
  refine W.eq (g2 := F0 m 782 ls (.int _ :: _)) rfl ?_
  refine lv_istore X.1 X.2.1 dL_law_782 hl (by decide) rfl (fun ls hl => ?_)
  refine lv_aload_n X.1 X.2.1 dL_law_784 rfl (lv_at hl 5 rfl) ?_
  refine mr_go X hT hds (mr_runV X hT cb_RL_93 kw822 kw823 kw824 (m_thrown hfl hM) (mr_cell X hT (mw_or_l hM.1) rfl) rfl rfl hl.1 ⟨Nat.le_of_ble_eq_true rfl, Nat.le_of_ble_eq_true rfl⟩ (Nat.le_of_ble_eq_true rfl) dL_law_785 ⟨by show cells + 3 + 0 + 0 ≤ 601024; omega, by show slots + 18 + 0 + 0 ≤ 7293034; omega⟩) (fun v Mt H locs hp hds hT => ?_)
  obtain ⟨r3, rfl, rfl, hM⟩ := hp
  refine W.eq (g2 := F0 m 788 ls (.int _ :: _)) rfl ?_
  refine lv_iload X.1 X.2.1 dL_law_788 (lv_at hl 1 rfl) ?_
  refine lv_icmp_eq X.1 X.2.1 (tgt := 795) dL_law_790 (by decide) (fun c790 => ?_) (fun c790 => absurd rfl c790)
  refine lv_iload X.1 X.2.1 dL_law_795 (lv_at hl 1 rfl) ?_
  refine lv_if_ne X.1 X.2.1 (tgt := 812) dL_law_797 (by decide) (fun c2 => ?_) (fun c2 => ?_)
  · skip
    refine lv_goto X.1 X.2.1 (tgt := 1495) dL_law_812 (by decide) ?_
    refine nx _ _ _ _ _ ?_
    exact ⟨b1, _, w1, _, Mx1, Mt, f1, e00, hA1, ho1, law_q (fun hc => st_lookAt hq hk hc) hq, hM, hd1, mw_ds_comm hds, by rw [mw_or_comm hds] at hT; exact hT, lv_sub hl [2, 3, 4, 5, 6] rfl, by show cells + 3 + 0 + 0 ≤ 100 + 20 * (k + 1); omega, by show slots + 18 + 0 + 0 ≤ 100000 + 3000 * (k + 1); omega⟩
  · skip
    refine lv_aload_n X.1 X.2.1 dL_law_800 rfl (lv_at hl 6 rfl) ?_
    refine lv_iconst X.1 X.2.1 (v := 0) dL_law_801 (by decide) ?_
    refine mr_lald X hT (law_o hds hd1) (vp_in_nI (n := 0) (show 0 < 1 by decide) (by decide)) dL_law_802 ?_
    refine lv_iload X.1 X.2.1 dL_law_803 (lv_at hl 0 rfl) ?_
    refine lv_i2l X.1 X.2.1 dL_law_805 rfl ?_
    refine W.lcmp X.1 X.2.1 dL_law_806 ?_
    refine lv_if_eq X.1 X.2.1 (tgt := 812) dL_law_807 (by decide) (fun c3 => ?_) (fun c3 => absurd (law_cmp ((congrArg f1 law_0).trans (by rw [han c2, hans c2]))) c3)
    refine lv_goto X.1 X.2.1 (tgt := 1495) dL_law_812 (by decide) ?_
    refine nx _ _ _ _ _ ?_
    exact ⟨b1, _, w1, _, Mx1, Mt, f1, e00, hA1, ho1, law_q (fun hc => st_lookAt hq hk hc) hq, hM, hd1, mw_ds_comm hds, by rw [mw_or_comm hds] at hT; exact hT, lv_sub hl [2, 3, 4, 5, 6] rfl, by show cells + 3 + 0 + 0 ≤ 100 + 20 * (k + 1); omega, by show slots + 18 + 0 + 0 ≤ 100000 + 3000 * (k + 1); omega⟩

set_option maxHeartbeats 4000000 in
set_option maxRecDepth 100000 in
theorem law_c10 {p : Program} {l : Launch} {e : Env} {s : State} {m : MethodId} {below : List Frame} {meth : Method} {c : Code} {G : mw_G} (hfl : l.stackTraces = false) (X : mw_B p l s m meth c code 7 RL G (fun q => s.heap.size ≤ q)) (hN : mw_N s) {b0 L : Nat} {xs : Nat → Int32} (hX : va_X b0 L xs s s.heap) (hbl : b0 < s.heap.size) {gx hm o : Nat} {ad : Nat → Nat} {k : Nat} {H : Heap} {locs : List Loc} {ls : Array Slot} {cells slots : Nat} (hk : k ≤ 511) (hkL : 4 * k + 4 ≤ L) (hL : L ≤ 2048) (hI : law_I G s b0 gx hm o ad k (4 * k) H locs ls cells slots) (nx : ∀ (H : Heap) (locs : List Loc) (ls : Array Slot) (cells slots : Nat), law_I G s b0 gx hm o ad (k + 1) (4 * k) H locs ls cells slots → W p l e room_1 s m #[Value.ref b0] below meth c H locs cells slots (lw_Z below #[Value.ref b0] s) (F0 m 1495 ls [])) : W p l e room_1 s m #[Value.ref b0] below meth c H locs cells slots (lw_Z below #[Value.ref b0] s) (F0 m 815 ls []) := by
  obtain ⟨b, x, w, lst, Mx, Mt, f, rfl, hA, ho, hq, hM, hd, hds, hT, hl, hce, hsl⟩ := hI
  have hbA : ¬ (fun q => s.heap.size ≤ q) b0 := Nat.not_le.mpr hbl
  have hi := q_inv_mono hq.1 hk
  refine lv_aload_n X.1 X.2.1 dL_law_815 rfl (lv_at hl 2 rfl) ?_
  refine lv_aload_n X.1 X.2.1 dL_law_816 rfl (lv_at hl 1 rfl) ?_
  refine lv_iload X.1 X.2.1 dL_law_817 (lv_at hl 0 rfl) ?_
  refine lv_iconst X.1 X.2.1 (v := 1) dL_law_819 (by decide) ?_
  refine lv_iadd X.1 X.2.1 dL_law_820 ?_
  refine mm_top (w := nI (4 * k + 1)) (nI_add _ 1) ?_
  refine va_sld X.1 X.2.1 hX hbl hbA hT.2.2 (vp_in_nI (n := 4 * k + 1) (by omega) (by omega)) dL_law_821 ?_
  refine mm_top (w := xs (4 * k + 1)) (by rw [nI_clamp (by omega)]) ?_
  refine lv_aload_n X.1 X.2.1 dL_law_822 rfl (lv_at hl 4 rfl) ?_
  refine mr_goX X hT hds (mr_runSN X hN hT cb_RL_128 kw587 kw588 (l_overdue hfl hA ho hi hd) rfl rfl hl.1 ⟨Nat.le_of_ble_eq_true rfl, Nat.le_of_ble_eq_true rfl⟩ (Nat.le_of_ble_eq_true rfl) dL_law_823 ⟨by show cells + 1 ≤ 601024; omega, by show slots + 6 ≤ 7293034; omega⟩) (fun E ce9 q9 H locs hp hT h1 h2 h3 => absurd hp id) (fun v M1 H locs hp hds hT => ?_)
  obtain ⟨r, rfl, Mx1, f1, rfl, rfl, hd1, ⟨b1, e00, w1, hA1, ho1⟩, han⟩ := hp
  refine W.eq (g2 := F0 m 826 ls (.int _ :: _)) rfl ?_
  rw [mw_or_comm hds] at hT
  have hds := mw_ds_comm hds
  refine lv_istore X.1 X.2.1 dL_law_826 hl (by decide) rfl (fun ls hl => ?_)
  refine lv_aload_n X.1 X.2.1 dL_law_828 rfl (lv_at hl 4 rfl) ?_
  refine lv_aload_n X.1 X.2.1 dL_law_829 rfl (lv_at hl 2 rfl) ?_
  refine lv_iload X.1 X.2.1 dL_law_830 (lv_at hl 1 rfl) ?_
  refine lv_iconst X.1 X.2.1 (v := 1) dL_law_832 (by decide) ?_
  refine lv_iadd X.1 X.2.1 dL_law_833 ?_
  refine mm_top (w := nI (4 * k + 1)) (nI_add _ 1) ?_
  refine va_sld X.1 X.2.1 hX hbl hbA hT.2.2 (vp_in_nI (n := 4 * k + 1) (by omega) (by omega)) dL_law_834 ?_
  refine mm_top (w := xs (4 * k + 1)) (by rw [nI_clamp (by omega)]) ?_
  refine mr_go X hT hds (mr_runV X hT cb_RL_130 kw938 kw939 kw940 (m_overdue hfl hM hi) (mr_cell X hT (mw_or_l hM.1) rfl) rfl rfl hl.1 ⟨Nat.le_of_ble_eq_true rfl, Nat.le_of_ble_eq_true rfl⟩ (Nat.le_of_ble_eq_true rfl) dL_law_835 ⟨by show cells + 1 + 0 ≤ 601024; omega, by show slots + 6 + 0 ≤ 7293034; omega⟩) (fun v Mt H locs hp hds hT => ?_)
  obtain ⟨r2, rfl, hans, hM⟩ := hp
  refine W.eq (g2 := F0 m 838 ls (.int _ :: _)) rfl ?_
  refine lv_istore X.1 X.2.1 dL_law_838 hl (by decide) rfl (fun ls hl => ?_)
  refine lv_aload_n X.1 X.2.1 dL_law_840 rfl (lv_at hl 5 rfl) ?_
  refine mr_go X hT hds (mr_runV X hT cb_RL_93 kw822 kw823 kw824 (m_thrown hfl hM) (mr_cell X hT (mw_or_l hM.1) rfl) rfl rfl hl.1 ⟨Nat.le_of_ble_eq_true rfl, Nat.le_of_ble_eq_true rfl⟩ (Nat.le_of_ble_eq_true rfl) dL_law_841 ⟨by show cells + 1 + 0 + 0 ≤ 601024; omega, by show slots + 6 + 0 + 0 ≤ 7293034; omega⟩) (fun v Mt H locs hp hds hT => ?_)
  obtain ⟨r3, rfl, rfl, hM⟩ := hp
  refine W.eq (g2 := F0 m 844 ls (.int _ :: _)) rfl ?_
  refine lv_iload X.1 X.2.1 dL_law_844 (lv_at hl 1 rfl) ?_
  refine lv_icmp_eq X.1 X.2.1 (tgt := 851) dL_law_846 (by decide) (fun c846 => ?_) (fun c846 => absurd rfl c846)
  refine lv_iload X.1 X.2.1 dL_law_851 (lv_at hl 1 rfl) ?_
  refine lv_if_ne X.1 X.2.1 (tgt := 868) dL_law_853 (by decide) (fun c2 => ?_) (fun c2 => ?_)
  · skip
    refine lv_goto X.1 X.2.1 (tgt := 1495) dL_law_868 (by decide) ?_
    refine nx _ _ _ _ _ ?_
    exact ⟨b1, _, w1, _, Mx1, Mt, f1, e00, hA1, ho1, law_q (fun hc => st_same hq) hq, hM, hd1, mw_ds_comm hds, by rw [mw_or_comm hds] at hT; exact hT, lv_sub hl [2, 3, 4, 5, 6] rfl, by show cells + 1 + 0 + 0 ≤ 100 + 20 * (k + 1); omega, by show slots + 6 + 0 + 0 ≤ 100000 + 3000 * (k + 1); omega⟩
  · skip
    refine lv_aload_n X.1 X.2.1 dL_law_856 rfl (lv_at hl 6 rfl) ?_
    refine lv_iconst X.1 X.2.1 (v := 0) dL_law_857 (by decide) ?_
    refine mr_lald X hT (law_o hds hd1) (vp_in_nI (n := 0) (show 0 < 1 by decide) (by decide)) dL_law_858 ?_
    refine lv_iload X.1 X.2.1 dL_law_859 (lv_at hl 0 rfl) ?_
    refine lv_i2l X.1 X.2.1 dL_law_861 rfl ?_
    refine W.lcmp X.1 X.2.1 dL_law_862 ?_
    refine lv_if_eq X.1 X.2.1 (tgt := 868) dL_law_863 (by decide) (fun c3 => ?_) (fun c3 => absurd (law_cmp ((congrArg f1 law_0).trans (by rw [han c2, hans c2]))) c3)
    refine lv_goto X.1 X.2.1 (tgt := 1495) dL_law_868 (by decide) ?_
    refine nx _ _ _ _ _ ?_
    exact ⟨b1, _, w1, _, Mx1, Mt, f1, e00, hA1, ho1, law_q (fun hc => st_same hq) hq, hM, hd1, mw_ds_comm hds, by rw [mw_or_comm hds] at hT; exact hT, lv_sub hl [2, 3, 4, 5, 6] rfl, by show cells + 1 + 0 + 0 ≤ 100 + 20 * (k + 1); omega, by show slots + 6 + 0 + 0 ≤ 100000 + 3000 * (k + 1); omega⟩

set_option maxHeartbeats 4000000 in
set_option maxRecDepth 100000 in
theorem law_c11 {p : Program} {l : Launch} {e : Env} {s : State} {m : MethodId} {below : List Frame} {meth : Method} {c : Code} {G : mw_G} (hfl : l.stackTraces = false) (X : mw_B p l s m meth c code 7 RL G (fun q => s.heap.size ≤ q)) (hN : mw_N s) {b0 L : Nat} {xs : Nat → Int32} (hX : va_X b0 L xs s s.heap) (hbl : b0 < s.heap.size) {gx hm o : Nat} {ad : Nat → Nat} {k : Nat} {H : Heap} {locs : List Loc} {ls : Array Slot} {cells slots : Nat} (hk : k ≤ 511) (hkL : 4 * k + 4 ≤ L) (hL : L ≤ 2048) (hI : law_I G s b0 gx hm o ad k (4 * k) H locs ls cells slots) (nx : ∀ (H : Heap) (locs : List Loc) (ls : Array Slot) (cells slots : Nat), law_I G s b0 gx hm o ad (k + 1) (4 * k) H locs ls cells slots → W p l e room_1 s m #[Value.ref b0] below meth c H locs cells slots (lw_Z below #[Value.ref b0] s) (F0 m 1495 ls [])) : W p l e room_1 s m #[Value.ref b0] below meth c H locs cells slots (lw_Z below #[Value.ref b0] s) (F0 m 871 ls []) := by
  obtain ⟨b, x, w, lst, Mx, Mt, f, rfl, hA, ho, hq, hM, hd, hds, hT, hl, hce, hsl⟩ := hI
  have hbA : ¬ (fun q => s.heap.size ≤ q) b0 := Nat.not_le.mpr hbl
  have hi := q_inv_mono hq.1 hk
  refine lv_aload_n X.1 X.2.1 dL_law_871 rfl (lv_at hl 2 rfl) ?_
  refine lv_aload_n X.1 X.2.1 dL_law_872 rfl (lv_at hl 1 rfl) ?_
  refine lv_iload X.1 X.2.1 dL_law_873 (lv_at hl 0 rfl) ?_
  refine lv_iconst X.1 X.2.1 (v := 1) dL_law_875 (by decide) ?_
  refine lv_iadd X.1 X.2.1 dL_law_876 ?_
  refine mm_top (w := nI (4 * k + 1)) (nI_add _ 1) ?_
  refine va_sld X.1 X.2.1 hX hbl hbA hT.2.2 (vp_in_nI (n := 4 * k + 1) (by omega) (by omega)) dL_law_877 ?_
  refine mm_top (w := xs (4 * k + 1)) (by rw [nI_clamp (by omega)]) ?_
  refine lv_aload_n X.1 X.2.1 dL_law_878 rfl (lv_at hl 1 rfl) ?_
  refine lv_iload X.1 X.2.1 dL_law_879 (lv_at hl 0 rfl) ?_
  refine lv_iconst X.1 X.2.1 (v := 2) dL_law_881 (by decide) ?_
  refine lv_iadd X.1 X.2.1 dL_law_882 ?_
  refine mm_top (w := nI (4 * k + 2)) (nI_add _ 2) ?_
  refine va_sld X.1 X.2.1 hX hbl hbA hT.2.2 (vp_in_nI (n := 4 * k + 2) (by omega) (by omega)) dL_law_883 ?_
  refine mm_top (w := xs (4 * k + 2)) (by rw [nI_clamp (by omega)]) ?_
  refine lv_aload_n X.1 X.2.1 dL_law_884 rfl (lv_at hl 1 rfl) ?_
  refine lv_iload X.1 X.2.1 dL_law_885 (lv_at hl 0 rfl) ?_
  refine lv_iconst X.1 X.2.1 (v := 3) dL_law_887 (by decide) ?_
  refine lv_iadd X.1 X.2.1 dL_law_888 ?_
  refine mm_top (w := nI (4 * k + 3)) (nI_add _ 3) ?_
  refine va_sld X.1 X.2.1 hX hbl hbA hT.2.2 (vp_in_nI (n := 4 * k + 3) (by omega) (by omega)) dL_law_889 ?_
  refine mm_top (w := xs (4 * k + 3)) (by rw [nI_clamp (by omega)]) ?_
  refine lv_aload_n X.1 X.2.1 dL_law_890 rfl (lv_at hl 4 rfl) ?_
  refine mr_goX X hT hds (mr_runSN X hN hT cb_RL_131 kw594 kw595 (l_couldEnter hfl hA ho hi hd) rfl rfl hl.1 ⟨Nat.le_of_ble_eq_true rfl, Nat.le_of_ble_eq_true rfl⟩ (Nat.le_of_ble_eq_true rfl) dL_law_891 ⟨by show cells + 3 ≤ 601024; omega, by show slots + 18 ≤ 7293034; omega⟩) (fun E ce9 q9 H locs hp hT h1 h2 h3 => absurd hp id) (fun v M1 H locs hp hds hT => ?_)
  obtain ⟨r, rfl, Mx1, f1, rfl, rfl, hd1, ⟨b1, e00, w1, hA1, ho1⟩, han⟩ := hp
  refine W.eq (g2 := F0 m 894 ls (.int _ :: _)) rfl ?_
  rw [mw_or_comm hds] at hT
  have hds := mw_ds_comm hds
  refine lv_istore X.1 X.2.1 dL_law_894 hl (by decide) rfl (fun ls hl => ?_)
  refine lv_aload_n X.1 X.2.1 dL_law_896 rfl (lv_at hl 4 rfl) ?_
  refine lv_aload_n X.1 X.2.1 dL_law_897 rfl (lv_at hl 2 rfl) ?_
  refine lv_iload X.1 X.2.1 dL_law_898 (lv_at hl 1 rfl) ?_
  refine lv_iconst X.1 X.2.1 (v := 1) dL_law_900 (by decide) ?_
  refine lv_iadd X.1 X.2.1 dL_law_901 ?_
  refine mm_top (w := nI (4 * k + 1)) (nI_add _ 1) ?_
  refine va_sld X.1 X.2.1 hX hbl hbA hT.2.2 (vp_in_nI (n := 4 * k + 1) (by omega) (by omega)) dL_law_902 ?_
  refine mm_top (w := xs (4 * k + 1)) (by rw [nI_clamp (by omega)]) ?_
  refine lv_aload_n X.1 X.2.1 dL_law_903 rfl (lv_at hl 2 rfl) ?_
  refine lv_iload X.1 X.2.1 dL_law_904 (lv_at hl 1 rfl) ?_
  refine lv_iconst X.1 X.2.1 (v := 2) dL_law_906 (by decide) ?_
  refine lv_iadd X.1 X.2.1 dL_law_907 ?_
  refine mm_top (w := nI (4 * k + 2)) (nI_add _ 2) ?_
  refine va_sld X.1 X.2.1 hX hbl hbA hT.2.2 (vp_in_nI (n := 4 * k + 2) (by omega) (by omega)) dL_law_908 ?_
  refine mm_top (w := xs (4 * k + 2)) (by rw [nI_clamp (by omega)]) ?_
  refine lv_aload_n X.1 X.2.1 dL_law_909 rfl (lv_at hl 2 rfl) ?_
  refine lv_iload X.1 X.2.1 dL_law_910 (lv_at hl 1 rfl) ?_
  refine lv_iconst X.1 X.2.1 (v := 3) dL_law_912 (by decide) ?_
  refine lv_iadd X.1 X.2.1 dL_law_913 ?_
  refine mm_top (w := nI (4 * k + 3)) (nI_add _ 3) ?_
  refine va_sld X.1 X.2.1 hX hbl hbA hT.2.2 (vp_in_nI (n := 4 * k + 3) (by omega) (by omega)) dL_law_914 ?_
  refine mm_top (w := xs (4 * k + 3)) (by rw [nI_clamp (by omega)]) ?_
  refine mr_go X hT hds (mr_runV X hT cb_RL_133 kw942 kw943 kw944 (m_couldEnter hfl hM hi) (mr_cell X hT (mw_or_l hM.1) rfl) rfl rfl hl.1 ⟨Nat.le_of_ble_eq_true rfl, Nat.le_of_ble_eq_true rfl⟩ (Nat.le_of_ble_eq_true rfl) dL_law_915 ⟨by show cells + 3 + 0 ≤ 601024; omega, by show slots + 18 + 0 ≤ 7293034; omega⟩) (fun v Mt H locs hp hds hT => ?_)
  obtain ⟨r2, rfl, hans, hM⟩ := hp
  refine W.eq (g2 := F0 m 918 ls (.int _ :: _)) rfl ?_
  refine lv_istore X.1 X.2.1 dL_law_918 hl (by decide) rfl (fun ls hl => ?_)
  refine lv_aload_n X.1 X.2.1 dL_law_920 rfl (lv_at hl 5 rfl) ?_
  refine mr_go X hT hds (mr_runV X hT cb_RL_93 kw822 kw823 kw824 (m_thrown hfl hM) (mr_cell X hT (mw_or_l hM.1) rfl) rfl rfl hl.1 ⟨Nat.le_of_ble_eq_true rfl, Nat.le_of_ble_eq_true rfl⟩ (Nat.le_of_ble_eq_true rfl) dL_law_921 ⟨by show cells + 3 + 0 + 0 ≤ 601024; omega, by show slots + 18 + 0 + 0 ≤ 7293034; omega⟩) (fun v Mt H locs hp hds hT => ?_)
  obtain ⟨r3, rfl, rfl, hM⟩ := hp
  refine W.eq (g2 := F0 m 924 ls (.int _ :: _)) rfl ?_
  refine lv_iload X.1 X.2.1 dL_law_924 (lv_at hl 1 rfl) ?_
  refine lv_icmp_eq X.1 X.2.1 (tgt := 931) dL_law_926 (by decide) (fun c926 => ?_) (fun c926 => absurd rfl c926)
  refine lv_iload X.1 X.2.1 dL_law_931 (lv_at hl 1 rfl) ?_
  refine lv_if_ne X.1 X.2.1 (tgt := 955) dL_law_933 (by decide) (fun c2 => ?_) (fun c2 => ?_)
  · skip
    refine lv_goto X.1 X.2.1 (tgt := 1495) dL_law_955 (by decide) ?_
    refine nx _ _ _ _ _ ?_
    exact ⟨b1, _, w1, _, Mx1, Mt, f1, e00, hA1, ho1, law_q (fun hc => st_same hq) hq, hM, hd1, mw_ds_comm hds, by rw [mw_or_comm hds] at hT; exact hT, lv_sub hl [2, 3, 4, 5, 6] rfl, by show cells + 3 + 0 + 0 ≤ 100 + 20 * (k + 1); omega, by show slots + 18 + 0 + 0 ≤ 100000 + 3000 * (k + 1); omega⟩
  · skip
    refine lv_aload_n X.1 X.2.1 dL_law_936 rfl (lv_at hl 6 rfl) ?_
    refine lv_iconst X.1 X.2.1 (v := 0) dL_law_937 (by decide) ?_
    refine mr_lald X hT (law_o hds hd1) (vp_in_nI (n := 0) (show 0 < 1 by decide) (by decide)) dL_law_938 ?_
    refine lv_iload X.1 X.2.1 dL_law_939 (lv_at hl 0 rfl) ?_
    refine lv_if_eq X.1 X.2.1 (tgt := 948) dL_law_941 (by decide) (fun c5 => ?_) (fun c5 => ?_)
    · skip
      refine lv_lconst X.1 X.2.1 (v := 0) dL_law_948 (by decide) ?_
      refine W.lcmp X.1 X.2.1 dL_law_949 ?_
      refine lv_if_eq X.1 X.2.1 (tgt := 955) dL_law_950 (by decide) (fun c3 => ?_) (fun c3 => absurd (law_cmp ((congrArg f1 law_0).trans (by rw [han c2, ← hans c2]; first | exact if_pos c5 | exact if_neg c5))) c3)
      refine lv_goto X.1 X.2.1 (tgt := 1495) dL_law_955 (by decide) ?_
      refine nx _ _ _ _ _ ?_
      exact ⟨b1, _, w1, _, Mx1, Mt, f1, e00, hA1, ho1, law_q (fun hc => st_same hq) hq, hM, hd1, mw_ds_comm hds, by rw [mw_or_comm hds] at hT; exact hT, lv_sub hl [2, 3, 4, 5, 6] rfl, by show cells + 3 + 0 + 0 ≤ 100 + 20 * (k + 1); omega, by show slots + 18 + 0 + 0 ≤ 100000 + 3000 * (k + 1); omega⟩
    · skip
      refine lv_lconst X.1 X.2.1 (v := 1) dL_law_944 (by decide) ?_
      refine lv_goto X.1 X.2.1 (tgt := 949) dL_law_945 (by decide) ?_
      refine W.lcmp X.1 X.2.1 dL_law_949 ?_
      refine lv_if_eq X.1 X.2.1 (tgt := 955) dL_law_950 (by decide) (fun c3 => ?_) (fun c3 => absurd (law_cmp ((congrArg f1 law_0).trans (by rw [han c2, ← hans c2]; first | exact if_pos c5 | exact if_neg c5))) c3)
      refine lv_goto X.1 X.2.1 (tgt := 1495) dL_law_955 (by decide) ?_
      refine nx _ _ _ _ _ ?_
      exact ⟨b1, _, w1, _, Mx1, Mt, f1, e00, hA1, ho1, law_q (fun hc => st_same hq) hq, hM, hd1, mw_ds_comm hds, by rw [mw_or_comm hds] at hT; exact hT, lv_sub hl [2, 3, 4, 5, 6] rfl, by show cells + 3 + 0 + 0 ≤ 100 + 20 * (k + 1); omega, by show slots + 18 + 0 + 0 ≤ 100000 + 3000 * (k + 1); omega⟩

set_option maxHeartbeats 4000000 in
set_option maxRecDepth 100000 in
theorem law_c12 {p : Program} {l : Launch} {e : Env} {s : State} {m : MethodId} {below : List Frame} {meth : Method} {c : Code} {G : mw_G} (hfl : l.stackTraces = false) (X : mw_B p l s m meth c code 7 RL G (fun q => s.heap.size ≤ q)) (hN : mw_N s) {b0 L : Nat} {xs : Nat → Int32} (hX : va_X b0 L xs s s.heap) (hbl : b0 < s.heap.size) {gx hm o : Nat} {ad : Nat → Nat} {k : Nat} {H : Heap} {locs : List Loc} {ls : Array Slot} {cells slots : Nat} (hk : k ≤ 511) (hkL : 4 * k + 4 ≤ L) (hL : L ≤ 2048) (hI : law_I G s b0 gx hm o ad k (4 * k) H locs ls cells slots) (nx : ∀ (H : Heap) (locs : List Loc) (ls : Array Slot) (cells slots : Nat), law_I G s b0 gx hm o ad (k + 1) (4 * k) H locs ls cells slots → W p l e room_1 s m #[Value.ref b0] below meth c H locs cells slots (lw_Z below #[Value.ref b0] s) (F0 m 1495 ls [])) : W p l e room_1 s m #[Value.ref b0] below meth c H locs cells slots (lw_Z below #[Value.ref b0] s) (F0 m 958 ls []) := by
  obtain ⟨b, x, w, lst, Mx, Mt, f, rfl, hA, ho, hq, hM, hd, hds, hT, hl, hce, hsl⟩ := hI
  have hbA : ¬ (fun q => s.heap.size ≤ q) b0 := Nat.not_le.mpr hbl
  have hi := q_inv_mono hq.1 hk
  refine lv_aload_n X.1 X.2.1 dL_law_958 rfl (lv_at hl 2 rfl) ?_
  refine lv_aload_n X.1 X.2.1 dL_law_959 rfl (lv_at hl 1 rfl) ?_
  refine lv_iload X.1 X.2.1 dL_law_960 (lv_at hl 0 rfl) ?_
  refine lv_iconst X.1 X.2.1 (v := 1) dL_law_962 (by decide) ?_
  refine lv_iadd X.1 X.2.1 dL_law_963 ?_
  refine mm_top (w := nI (4 * k + 1)) (nI_add _ 1) ?_
  refine va_sld X.1 X.2.1 hX hbl hbA hT.2.2 (vp_in_nI (n := 4 * k + 1) (by omega) (by omega)) dL_law_964 ?_
  refine mm_top (w := xs (4 * k + 1)) (by rw [nI_clamp (by omega)]) ?_
  refine lv_aload_n X.1 X.2.1 dL_law_965 rfl (lv_at hl 1 rfl) ?_
  refine lv_iload X.1 X.2.1 dL_law_966 (lv_at hl 0 rfl) ?_
  refine lv_iconst X.1 X.2.1 (v := 2) dL_law_968 (by decide) ?_
  refine lv_iadd X.1 X.2.1 dL_law_969 ?_
  refine mm_top (w := nI (4 * k + 2)) (nI_add _ 2) ?_
  refine va_sld X.1 X.2.1 hX hbl hbA hT.2.2 (vp_in_nI (n := 4 * k + 2) (by omega) (by omega)) dL_law_970 ?_
  refine mm_top (w := xs (4 * k + 2)) (by rw [nI_clamp (by omega)]) ?_
  refine lv_aload_n X.1 X.2.1 dL_law_971 rfl (lv_at hl 4 rfl) ?_
  refine mr_goX X hT hds (mr_runSN X hN hT cb_RL_134 kw603 kw604 (l_open hfl hA ho hi hd) rfl rfl hl.1 ⟨Nat.le_of_ble_eq_true rfl, Nat.le_of_ble_eq_true rfl⟩ (Nat.le_of_ble_eq_true rfl) dL_law_972 ⟨by show cells + 5 ≤ 601024; omega, by show slots + 1324 ≤ 7293034; omega⟩) (fun E ce9 q9 H locs hp hT h1 h2 h3 => absurd hp id) (fun v M1 H locs hp hds hT => ?_)
  obtain ⟨r, rfl, Mx1, f1, rfl, rfl, hd1, ⟨b1, e00, w1, hA1, ho1⟩, han⟩ := hp
  refine W.eq (g2 := F0 m 975 ls (.int _ :: _)) rfl ?_
  rw [mw_or_comm hds] at hT
  have hds := mw_ds_comm hds
  refine lv_istore X.1 X.2.1 dL_law_975 hl (by decide) rfl (fun ls hl => ?_)
  refine lv_aload_n X.1 X.2.1 dL_law_977 rfl (lv_at hl 4 rfl) ?_
  refine lv_aload_n X.1 X.2.1 dL_law_978 rfl (lv_at hl 2 rfl) ?_
  refine lv_iload X.1 X.2.1 dL_law_979 (lv_at hl 1 rfl) ?_
  refine lv_iconst X.1 X.2.1 (v := 1) dL_law_981 (by decide) ?_
  refine lv_iadd X.1 X.2.1 dL_law_982 ?_
  refine mm_top (w := nI (4 * k + 1)) (nI_add _ 1) ?_
  refine va_sld X.1 X.2.1 hX hbl hbA hT.2.2 (vp_in_nI (n := 4 * k + 1) (by omega) (by omega)) dL_law_983 ?_
  refine mm_top (w := xs (4 * k + 1)) (by rw [nI_clamp (by omega)]) ?_
  refine lv_aload_n X.1 X.2.1 dL_law_984 rfl (lv_at hl 2 rfl) ?_
  refine lv_iload X.1 X.2.1 dL_law_985 (lv_at hl 1 rfl) ?_
  refine lv_iconst X.1 X.2.1 (v := 2) dL_law_987 (by decide) ?_
  refine lv_iadd X.1 X.2.1 dL_law_988 ?_
  refine mm_top (w := nI (4 * k + 2)) (nI_add _ 2) ?_
  refine va_sld X.1 X.2.1 hX hbl hbA hT.2.2 (vp_in_nI (n := 4 * k + 2) (by omega) (by omega)) dL_law_989 ?_
  refine mm_top (w := xs (4 * k + 2)) (by rw [nI_clamp (by omega)]) ?_
  refine mr_go X hT hds (mr_runV X hT cb_RL_136 kw947 kw948 kw949 (m_open hfl hM hi) (mr_cell X hT (mw_or_l hM.1) rfl) rfl rfl hl.1 ⟨Nat.le_of_ble_eq_true rfl, Nat.le_of_ble_eq_true rfl⟩ (Nat.le_of_ble_eq_true rfl) dL_law_990 ⟨by show cells + 5 + 0 ≤ 601024; omega, by show slots + 1324 + 0 ≤ 7293034; omega⟩) (fun v Mt H locs hp hds hT => ?_)
  obtain ⟨r2, rfl, hans, hM⟩ := hp
  refine W.eq (g2 := F0 m 993 ls (.int _ :: _)) rfl ?_
  refine lv_istore X.1 X.2.1 dL_law_993 hl (by decide) rfl (fun ls hl => ?_)
  refine lv_aload_n X.1 X.2.1 dL_law_995 rfl (lv_at hl 5 rfl) ?_
  refine mr_go X hT hds (mr_runV X hT cb_RL_93 kw822 kw823 kw824 (m_thrown hfl hM) (mr_cell X hT (mw_or_l hM.1) rfl) rfl rfl hl.1 ⟨Nat.le_of_ble_eq_true rfl, Nat.le_of_ble_eq_true rfl⟩ (Nat.le_of_ble_eq_true rfl) dL_law_996 ⟨by show cells + 5 + 0 + 0 ≤ 601024; omega, by show slots + 1324 + 0 + 0 ≤ 7293034; omega⟩) (fun v Mt H locs hp hds hT => ?_)
  obtain ⟨r3, rfl, rfl, hM⟩ := hp
  refine W.eq (g2 := F0 m 999 ls (.int _ :: _)) rfl ?_
  refine lv_iload X.1 X.2.1 dL_law_999 (lv_at hl 1 rfl) ?_
  refine lv_icmp_eq X.1 X.2.1 (tgt := 1006) dL_law_1001 (by decide) (fun c1001 => ?_) (fun c1001 => absurd rfl c1001)
  refine lv_iload X.1 X.2.1 dL_law_1006 (lv_at hl 1 rfl) ?_
  refine lv_if_ne X.1 X.2.1 (tgt := 1023) dL_law_1008 (by decide) (fun c2 => ?_) (fun c2 => ?_)
  · skip
    refine lv_goto X.1 X.2.1 (tgt := 1495) dL_law_1023 (by decide) ?_
    refine nx _ _ _ _ _ ?_
    exact ⟨b1, _, w1, _, Mx1, Mt, f1, e00, hA1, ho1, law_q (fun hc => st_open hq hc) hq, hM, hd1, mw_ds_comm hds, by rw [mw_or_comm hds] at hT; exact hT, lv_sub hl [2, 3, 4, 5, 6] rfl, by show cells + 5 + 0 + 0 ≤ 100 + 20 * (k + 1); omega, by show slots + 1324 + 0 + 0 ≤ 100000 + 3000 * (k + 1); omega⟩
  · skip
    refine lv_aload_n X.1 X.2.1 dL_law_1011 rfl (lv_at hl 6 rfl) ?_
    refine lv_iconst X.1 X.2.1 (v := 0) dL_law_1012 (by decide) ?_
    refine mr_lald X hT (law_o hds hd1) (vp_in_nI (n := 0) (show 0 < 1 by decide) (by decide)) dL_law_1013 ?_
    refine lv_iload X.1 X.2.1 dL_law_1014 (lv_at hl 0 rfl) ?_
    refine lv_i2l X.1 X.2.1 dL_law_1016 rfl ?_
    refine W.lcmp X.1 X.2.1 dL_law_1017 ?_
    refine lv_if_eq X.1 X.2.1 (tgt := 1023) dL_law_1018 (by decide) (fun c3 => ?_) (fun c3 => absurd (law_cmp ((congrArg f1 law_0).trans (by rw [han c2, hans c2]))) c3)
    refine lv_goto X.1 X.2.1 (tgt := 1495) dL_law_1023 (by decide) ?_
    refine nx _ _ _ _ _ ?_
    exact ⟨b1, _, w1, _, Mx1, Mt, f1, e00, hA1, ho1, law_q (fun hc => st_open hq hc) hq, hM, hd1, mw_ds_comm hds, by rw [mw_or_comm hds] at hT; exact hT, lv_sub hl [2, 3, 4, 5, 6] rfl, by show cells + 5 + 0 + 0 ≤ 100 + 20 * (k + 1); omega, by show slots + 1324 + 0 + 0 ≤ 100000 + 3000 * (k + 1); omega⟩

set_option maxHeartbeats 4000000 in
set_option maxRecDepth 100000 in
theorem law_c13 {p : Program} {l : Launch} {e : Env} {s : State} {m : MethodId} {below : List Frame} {meth : Method} {c : Code} {G : mw_G} (hfl : l.stackTraces = false) (X : mw_B p l s m meth c code 7 RL G (fun q => s.heap.size ≤ q)) (hN : mw_N s) {b0 L : Nat} {xs : Nat → Int32} (hX : va_X b0 L xs s s.heap) (hbl : b0 < s.heap.size) {gx hm o : Nat} {ad : Nat → Nat} {k : Nat} {H : Heap} {locs : List Loc} {ls : Array Slot} {cells slots : Nat} (hk : k ≤ 511) (hkL : 4 * k + 4 ≤ L) (hL : L ≤ 2048) (hI : law_I G s b0 gx hm o ad k (4 * k) H locs ls cells slots) (nx : ∀ (H : Heap) (locs : List Loc) (ls : Array Slot) (cells slots : Nat), law_I G s b0 gx hm o ad (k + 1) (4 * k) H locs ls cells slots → W p l e room_1 s m #[Value.ref b0] below meth c H locs cells slots (lw_Z below #[Value.ref b0] s) (F0 m 1495 ls [])) : W p l e room_1 s m #[Value.ref b0] below meth c H locs cells slots (lw_Z below #[Value.ref b0] s) (F0 m 1026 ls []) := by
  obtain ⟨b, x, w, lst, Mx, Mt, f, rfl, hA, ho, hq, hM, hd, hds, hT, hl, hce, hsl⟩ := hI
  have hbA : ¬ (fun q => s.heap.size ≤ q) b0 := Nat.not_le.mpr hbl
  have hi := q_inv_mono hq.1 hk
  refine lv_aload_n X.1 X.2.1 dL_law_1026 rfl (lv_at hl 2 rfl) ?_
  refine lv_aload_n X.1 X.2.1 dL_law_1027 rfl (lv_at hl 1 rfl) ?_
  refine lv_iload X.1 X.2.1 dL_law_1028 (lv_at hl 0 rfl) ?_
  refine lv_iconst X.1 X.2.1 (v := 1) dL_law_1030 (by decide) ?_
  refine lv_iadd X.1 X.2.1 dL_law_1031 ?_
  refine mm_top (w := nI (4 * k + 1)) (nI_add _ 1) ?_
  refine va_sld X.1 X.2.1 hX hbl hbA hT.2.2 (vp_in_nI (n := 4 * k + 1) (by omega) (by omega)) dL_law_1032 ?_
  refine mm_top (w := xs (4 * k + 1)) (by rw [nI_clamp (by omega)]) ?_
  refine lv_aload_n X.1 X.2.1 dL_law_1033 rfl (lv_at hl 1 rfl) ?_
  refine lv_iload X.1 X.2.1 dL_law_1034 (lv_at hl 0 rfl) ?_
  refine lv_iconst X.1 X.2.1 (v := 2) dL_law_1036 (by decide) ?_
  refine lv_iadd X.1 X.2.1 dL_law_1037 ?_
  refine mm_top (w := nI (4 * k + 2)) (nI_add _ 2) ?_
  refine va_sld X.1 X.2.1 hX hbl hbA hT.2.2 (vp_in_nI (n := 4 * k + 2) (by omega) (by omega)) dL_law_1038 ?_
  refine mm_top (w := xs (4 * k + 2)) (by rw [nI_clamp (by omega)]) ?_
  refine lv_aload_n X.1 X.2.1 dL_law_1039 rfl (lv_at hl 4 rfl) ?_
  refine mr_goX X hT hds (mr_runSN X hN hT cb_RL_137 kw640 kw641 (l_type hfl hA ho hi hd) rfl rfl hl.1 ⟨Nat.le_of_ble_eq_true rfl, Nat.le_of_ble_eq_true rfl⟩ (Nat.le_of_ble_eq_true rfl) dL_law_1040 ⟨by show cells + 3 ≤ 601024; omega, by show slots + 18 ≤ 7293034; omega⟩) (fun E ce9 q9 H locs hp hT h1 h2 h3 => absurd hp id) (fun v M1 H locs hp hds hT => ?_)
  obtain ⟨r, rfl, Mx1, f1, rfl, rfl, hd1, ⟨b1, e00, w1, hA1, ho1⟩, han⟩ := hp
  refine W.eq (g2 := F0 m 1043 ls (.int _ :: _)) rfl ?_
  rw [mw_or_comm hds] at hT
  have hds := mw_ds_comm hds
  refine lv_istore X.1 X.2.1 dL_law_1043 hl (by decide) rfl (fun ls hl => ?_)
  refine lv_aload_n X.1 X.2.1 dL_law_1045 rfl (lv_at hl 4 rfl) ?_
  refine lv_aload_n X.1 X.2.1 dL_law_1046 rfl (lv_at hl 2 rfl) ?_
  refine lv_iload X.1 X.2.1 dL_law_1047 (lv_at hl 1 rfl) ?_
  refine lv_iconst X.1 X.2.1 (v := 1) dL_law_1049 (by decide) ?_
  refine lv_iadd X.1 X.2.1 dL_law_1050 ?_
  refine mm_top (w := nI (4 * k + 1)) (nI_add _ 1) ?_
  refine va_sld X.1 X.2.1 hX hbl hbA hT.2.2 (vp_in_nI (n := 4 * k + 1) (by omega) (by omega)) dL_law_1051 ?_
  refine mm_top (w := xs (4 * k + 1)) (by rw [nI_clamp (by omega)]) ?_
  refine lv_aload_n X.1 X.2.1 dL_law_1052 rfl (lv_at hl 2 rfl) ?_
  refine lv_iload X.1 X.2.1 dL_law_1053 (lv_at hl 1 rfl) ?_
  refine lv_iconst X.1 X.2.1 (v := 2) dL_law_1055 (by decide) ?_
  refine lv_iadd X.1 X.2.1 dL_law_1056 ?_
  refine mm_top (w := nI (4 * k + 2)) (nI_add _ 2) ?_
  refine va_sld X.1 X.2.1 hX hbl hbA hT.2.2 (vp_in_nI (n := 4 * k + 2) (by omega) (by omega)) dL_law_1057 ?_
  refine mm_top (w := xs (4 * k + 2)) (by rw [nI_clamp (by omega)]) ?_
  refine mr_go X hT hds (mr_runV X hT cb_RL_139 kw951 kw952 kw953 (m_type hfl hM hi) (mr_cell X hT (mw_or_l hM.1) rfl) rfl rfl hl.1 ⟨Nat.le_of_ble_eq_true rfl, Nat.le_of_ble_eq_true rfl⟩ (Nat.le_of_ble_eq_true rfl) dL_law_1058 ⟨by show cells + 3 + 0 ≤ 601024; omega, by show slots + 18 + 0 ≤ 7293034; omega⟩) (fun v Mt H locs hp hds hT => ?_)
  obtain ⟨r2, rfl, hans, hM⟩ := hp
  refine W.eq (g2 := F0 m 1061 ls (.int _ :: _)) rfl ?_
  refine lv_istore X.1 X.2.1 dL_law_1061 hl (by decide) rfl (fun ls hl => ?_)
  refine lv_aload_n X.1 X.2.1 dL_law_1063 rfl (lv_at hl 5 rfl) ?_
  refine mr_go X hT hds (mr_runV X hT cb_RL_93 kw822 kw823 kw824 (m_thrown hfl hM) (mr_cell X hT (mw_or_l hM.1) rfl) rfl rfl hl.1 ⟨Nat.le_of_ble_eq_true rfl, Nat.le_of_ble_eq_true rfl⟩ (Nat.le_of_ble_eq_true rfl) dL_law_1064 ⟨by show cells + 3 + 0 + 0 ≤ 601024; omega, by show slots + 18 + 0 + 0 ≤ 7293034; omega⟩) (fun v Mt H locs hp hds hT => ?_)
  obtain ⟨r3, rfl, rfl, hM⟩ := hp
  refine W.eq (g2 := F0 m 1067 ls (.int _ :: _)) rfl ?_
  refine lv_iload X.1 X.2.1 dL_law_1067 (lv_at hl 1 rfl) ?_
  refine lv_icmp_eq X.1 X.2.1 (tgt := 1074) dL_law_1069 (by decide) (fun c1069 => ?_) (fun c1069 => absurd rfl c1069)
  refine lv_iload X.1 X.2.1 dL_law_1074 (lv_at hl 1 rfl) ?_
  refine lv_if_ne X.1 X.2.1 (tgt := 1098) dL_law_1076 (by decide) (fun c2 => ?_) (fun c2 => ?_)
  · skip
    refine lv_goto X.1 X.2.1 (tgt := 1495) dL_law_1098 (by decide) ?_
    refine nx _ _ _ _ _ ?_
    exact ⟨b1, _, w1, _, Mx1, Mt, f1, e00, hA1, ho1, law_q (fun hc => st_type hq hk hc) hq, hM, hd1, mw_ds_comm hds, by rw [mw_or_comm hds] at hT; exact hT, lv_sub hl [2, 3, 4, 5, 6] rfl, by show cells + 3 + 0 + 0 ≤ 100 + 20 * (k + 1); omega, by show slots + 18 + 0 + 0 ≤ 100000 + 3000 * (k + 1); omega⟩
  · skip
    refine lv_aload_n X.1 X.2.1 dL_law_1079 rfl (lv_at hl 6 rfl) ?_
    refine lv_iconst X.1 X.2.1 (v := 0) dL_law_1080 (by decide) ?_
    refine mr_lald X hT (law_o hds hd1) (vp_in_nI (n := 0) (show 0 < 1 by decide) (by decide)) dL_law_1081 ?_
    refine lv_iload X.1 X.2.1 dL_law_1082 (lv_at hl 0 rfl) ?_
    refine lv_if_eq X.1 X.2.1 (tgt := 1091) dL_law_1084 (by decide) (fun c5 => ?_) (fun c5 => ?_)
    · skip
      refine lv_lconst X.1 X.2.1 (v := 0) dL_law_1091 (by decide) ?_
      refine W.lcmp X.1 X.2.1 dL_law_1092 ?_
      refine lv_if_eq X.1 X.2.1 (tgt := 1098) dL_law_1093 (by decide) (fun c3 => ?_) (fun c3 => absurd (law_cmp ((congrArg f1 law_0).trans (by rw [han c2, ← hans c2]; first | exact if_pos c5 | exact if_neg c5))) c3)
      refine lv_goto X.1 X.2.1 (tgt := 1495) dL_law_1098 (by decide) ?_
      refine nx _ _ _ _ _ ?_
      exact ⟨b1, _, w1, _, Mx1, Mt, f1, e00, hA1, ho1, law_q (fun hc => st_type hq hk hc) hq, hM, hd1, mw_ds_comm hds, by rw [mw_or_comm hds] at hT; exact hT, lv_sub hl [2, 3, 4, 5, 6] rfl, by show cells + 3 + 0 + 0 ≤ 100 + 20 * (k + 1); omega, by show slots + 18 + 0 + 0 ≤ 100000 + 3000 * (k + 1); omega⟩
    · skip
      refine lv_lconst X.1 X.2.1 (v := 1) dL_law_1087 (by decide) ?_
      refine lv_goto X.1 X.2.1 (tgt := 1092) dL_law_1088 (by decide) ?_
      refine W.lcmp X.1 X.2.1 dL_law_1092 ?_
      refine lv_if_eq X.1 X.2.1 (tgt := 1098) dL_law_1093 (by decide) (fun c3 => ?_) (fun c3 => absurd (law_cmp ((congrArg f1 law_0).trans (by rw [han c2, ← hans c2]; first | exact if_pos c5 | exact if_neg c5))) c3)
      refine lv_goto X.1 X.2.1 (tgt := 1495) dL_law_1098 (by decide) ?_
      refine nx _ _ _ _ _ ?_
      exact ⟨b1, _, w1, _, Mx1, Mt, f1, e00, hA1, ho1, law_q (fun hc => st_type hq hk hc) hq, hM, hd1, mw_ds_comm hds, by rw [mw_or_comm hds] at hT; exact hT, lv_sub hl [2, 3, 4, 5, 6] rfl, by show cells + 3 + 0 + 0 ≤ 100 + 20 * (k + 1); omega, by show slots + 18 + 0 + 0 ≤ 100000 + 3000 * (k + 1); omega⟩

set_option maxHeartbeats 4000000 in
set_option maxRecDepth 100000 in
theorem law_c14 {p : Program} {l : Launch} {e : Env} {s : State} {m : MethodId} {below : List Frame} {meth : Method} {c : Code} {G : mw_G} (hfl : l.stackTraces = false) (X : mw_B p l s m meth c code 7 RL G (fun q => s.heap.size ≤ q)) (hN : mw_N s) {b0 L : Nat} {xs : Nat → Int32} (hX : va_X b0 L xs s s.heap) (hbl : b0 < s.heap.size) {gx hm o : Nat} {ad : Nat → Nat} {k : Nat} {H : Heap} {locs : List Loc} {ls : Array Slot} {cells slots : Nat} (hk : k ≤ 511) (hkL : 4 * k + 4 ≤ L) (hL : L ≤ 2048) (hI : law_I G s b0 gx hm o ad k (4 * k) H locs ls cells slots) (nx : ∀ (H : Heap) (locs : List Loc) (ls : Array Slot) (cells slots : Nat), law_I G s b0 gx hm o ad (k + 1) (4 * k) H locs ls cells slots → W p l e room_1 s m #[Value.ref b0] below meth c H locs cells slots (lw_Z below #[Value.ref b0] s) (F0 m 1495 ls [])) : W p l e room_1 s m #[Value.ref b0] below meth c H locs cells slots (lw_Z below #[Value.ref b0] s) (F0 m 1101 ls []) := by
  obtain ⟨b, x, w, lst, Mx, Mt, f, rfl, hA, ho, hq, hM, hd, hds, hT, hl, hce, hsl⟩ := hI
  have hbA : ¬ (fun q => s.heap.size ≤ q) b0 := Nat.not_le.mpr hbl
  have hi := q_inv_mono hq.1 hk
  refine lv_aload_n X.1 X.2.1 dL_law_1101 rfl (lv_at hl 2 rfl) ?_
  refine lv_aload_n X.1 X.2.1 dL_law_1102 rfl (lv_at hl 1 rfl) ?_
  refine lv_iload X.1 X.2.1 dL_law_1103 (lv_at hl 0 rfl) ?_
  refine lv_iconst X.1 X.2.1 (v := 1) dL_law_1105 (by decide) ?_
  refine lv_iadd X.1 X.2.1 dL_law_1106 ?_
  refine mm_top (w := nI (4 * k + 1)) (nI_add _ 1) ?_
  refine va_sld X.1 X.2.1 hX hbl hbA hT.2.2 (vp_in_nI (n := 4 * k + 1) (by omega) (by omega)) dL_law_1107 ?_
  refine mm_top (w := xs (4 * k + 1)) (by rw [nI_clamp (by omega)]) ?_
  refine lv_aload_n X.1 X.2.1 dL_law_1108 rfl (lv_at hl 1 rfl) ?_
  refine lv_iload X.1 X.2.1 dL_law_1109 (lv_at hl 0 rfl) ?_
  refine lv_iconst X.1 X.2.1 (v := 2) dL_law_1111 (by decide) ?_
  refine lv_iadd X.1 X.2.1 dL_law_1112 ?_
  refine mm_top (w := nI (4 * k + 2)) (nI_add _ 2) ?_
  refine va_sld X.1 X.2.1 hX hbl hbA hT.2.2 (vp_in_nI (n := 4 * k + 2) (by omega) (by omega)) dL_law_1113 ?_
  refine mm_top (w := xs (4 * k + 2)) (by rw [nI_clamp (by omega)]) ?_
  refine lv_aload_n X.1 X.2.1 dL_law_1114 rfl (lv_at hl 4 rfl) ?_
  refine mr_goX X hT hds (mr_runSN X hN hT cb_RL_140 kw662 kw663 (l_letThrough hfl hA ho hi hd) rfl rfl hl.1 ⟨Nat.le_of_ble_eq_true rfl, Nat.le_of_ble_eq_true rfl⟩ (Nat.le_of_ble_eq_true rfl) dL_law_1115 ⟨by show cells + 4 ≤ 601024; omega, by show slots + 24 ≤ 7293034; omega⟩) (fun E ce9 q9 H locs hp hT h1 h2 h3 => absurd hp id) (fun v M1 H locs hp hds hT => ?_)
  obtain ⟨r, rfl, Mx1, f1, rfl, rfl, hd1, ⟨b1, e00, w1, hA1, ho1⟩, han⟩ := hp
  refine W.eq (g2 := F0 m 1118 ls (.int _ :: _)) rfl ?_
  rw [mw_or_comm hds] at hT
  have hds := mw_ds_comm hds
  refine lv_istore X.1 X.2.1 dL_law_1118 hl (by decide) rfl (fun ls hl => ?_)
  refine lv_aload_n X.1 X.2.1 dL_law_1120 rfl (lv_at hl 4 rfl) ?_
  refine lv_aload_n X.1 X.2.1 dL_law_1121 rfl (lv_at hl 2 rfl) ?_
  refine lv_iload X.1 X.2.1 dL_law_1122 (lv_at hl 1 rfl) ?_
  refine lv_iconst X.1 X.2.1 (v := 1) dL_law_1124 (by decide) ?_
  refine lv_iadd X.1 X.2.1 dL_law_1125 ?_
  refine mm_top (w := nI (4 * k + 1)) (nI_add _ 1) ?_
  refine va_sld X.1 X.2.1 hX hbl hbA hT.2.2 (vp_in_nI (n := 4 * k + 1) (by omega) (by omega)) dL_law_1126 ?_
  refine mm_top (w := xs (4 * k + 1)) (by rw [nI_clamp (by omega)]) ?_
  refine lv_aload_n X.1 X.2.1 dL_law_1127 rfl (lv_at hl 2 rfl) ?_
  refine lv_iload X.1 X.2.1 dL_law_1128 (lv_at hl 1 rfl) ?_
  refine lv_iconst X.1 X.2.1 (v := 2) dL_law_1130 (by decide) ?_
  refine lv_iadd X.1 X.2.1 dL_law_1131 ?_
  refine mm_top (w := nI (4 * k + 2)) (nI_add _ 2) ?_
  refine va_sld X.1 X.2.1 hX hbl hbA hT.2.2 (vp_in_nI (n := 4 * k + 2) (by omega) (by omega)) dL_law_1132 ?_
  refine mm_top (w := xs (4 * k + 2)) (by rw [nI_clamp (by omega)]) ?_
  refine mr_go X hT hds (mr_runV X hT cb_RL_142 kw959 kw960 kw961 (m_letThrough hfl hM hi) (mr_cell X hT (mw_or_l hM.1) rfl) rfl rfl hl.1 ⟨Nat.le_of_ble_eq_true rfl, Nat.le_of_ble_eq_true rfl⟩ (Nat.le_of_ble_eq_true rfl) dL_law_1133 ⟨by show cells + 4 + 0 ≤ 601024; omega, by show slots + 24 + 0 ≤ 7293034; omega⟩) (fun v Mt H locs hp hds hT => ?_)
  obtain ⟨r2, rfl, hans, hM⟩ := hp
  refine W.eq (g2 := F0 m 1136 ls (.int _ :: _)) rfl ?_
  refine lv_istore X.1 X.2.1 dL_law_1136 hl (by decide) rfl (fun ls hl => ?_)
  refine lv_aload_n X.1 X.2.1 dL_law_1138 rfl (lv_at hl 5 rfl) ?_
  refine mr_go X hT hds (mr_runV X hT cb_RL_93 kw822 kw823 kw824 (m_thrown hfl hM) (mr_cell X hT (mw_or_l hM.1) rfl) rfl rfl hl.1 ⟨Nat.le_of_ble_eq_true rfl, Nat.le_of_ble_eq_true rfl⟩ (Nat.le_of_ble_eq_true rfl) dL_law_1139 ⟨by show cells + 4 + 0 + 0 ≤ 601024; omega, by show slots + 24 + 0 + 0 ≤ 7293034; omega⟩) (fun v Mt H locs hp hds hT => ?_)
  obtain ⟨r3, rfl, rfl, hM⟩ := hp
  refine W.eq (g2 := F0 m 1142 ls (.int _ :: _)) rfl ?_
  refine lv_iload X.1 X.2.1 dL_law_1142 (lv_at hl 1 rfl) ?_
  refine lv_icmp_eq X.1 X.2.1 (tgt := 1149) dL_law_1144 (by decide) (fun c1144 => ?_) (fun c1144 => absurd rfl c1144)
  refine lv_iload X.1 X.2.1 dL_law_1149 (lv_at hl 1 rfl) ?_
  refine lv_if_ne X.1 X.2.1 (tgt := 1166) dL_law_1151 (by decide) (fun c2 => ?_) (fun c2 => ?_)
  · skip
    refine lv_goto X.1 X.2.1 (tgt := 1495) dL_law_1166 (by decide) ?_
    refine nx _ _ _ _ _ ?_
    exact ⟨b1, _, w1, _, Mx1, Mt, f1, e00, hA1, ho1, law_q (fun hc => st_letThrough hq hk hc) hq, hM, hd1, mw_ds_comm hds, by rw [mw_or_comm hds] at hT; exact hT, lv_sub hl [2, 3, 4, 5, 6] rfl, by show cells + 4 + 0 + 0 ≤ 100 + 20 * (k + 1); omega, by show slots + 24 + 0 + 0 ≤ 100000 + 3000 * (k + 1); omega⟩
  · skip
    refine lv_aload_n X.1 X.2.1 dL_law_1154 rfl (lv_at hl 6 rfl) ?_
    refine lv_iconst X.1 X.2.1 (v := 0) dL_law_1155 (by decide) ?_
    refine mr_lald X hT (law_o hds hd1) (vp_in_nI (n := 0) (show 0 < 1 by decide) (by decide)) dL_law_1156 ?_
    refine lv_iload X.1 X.2.1 dL_law_1157 (lv_at hl 0 rfl) ?_
    refine lv_i2l X.1 X.2.1 dL_law_1159 rfl ?_
    refine W.lcmp X.1 X.2.1 dL_law_1160 ?_
    refine lv_if_eq X.1 X.2.1 (tgt := 1166) dL_law_1161 (by decide) (fun c3 => ?_) (fun c3 => absurd (law_cmp ((congrArg f1 law_0).trans (by rw [han c2, hans c2]))) c3)
    refine lv_goto X.1 X.2.1 (tgt := 1495) dL_law_1166 (by decide) ?_
    refine nx _ _ _ _ _ ?_
    exact ⟨b1, _, w1, _, Mx1, Mt, f1, e00, hA1, ho1, law_q (fun hc => st_letThrough hq hk hc) hq, hM, hd1, mw_ds_comm hds, by rw [mw_or_comm hds] at hT; exact hT, lv_sub hl [2, 3, 4, 5, 6] rfl, by show cells + 4 + 0 + 0 ≤ 100 + 20 * (k + 1); omega, by show slots + 24 + 0 + 0 ≤ 100000 + 3000 * (k + 1); omega⟩

set_option maxHeartbeats 4000000 in
set_option maxRecDepth 100000 in
theorem law_c15 {p : Program} {l : Launch} {e : Env} {s : State} {m : MethodId} {below : List Frame} {meth : Method} {c : Code} {G : mw_G} (hfl : l.stackTraces = false) (X : mw_B p l s m meth c code 7 RL G (fun q => s.heap.size ≤ q)) (hN : mw_N s) {b0 L : Nat} {xs : Nat → Int32} (hX : va_X b0 L xs s s.heap) (hbl : b0 < s.heap.size) {gx hm o : Nat} {ad : Nat → Nat} {k : Nat} {H : Heap} {locs : List Loc} {ls : Array Slot} {cells slots : Nat} (hk : k ≤ 511) (hkL : 4 * k + 4 ≤ L) (hL : L ≤ 2048) (hI : law_I G s b0 gx hm o ad k (4 * k) H locs ls cells slots) (nx : ∀ (H : Heap) (locs : List Loc) (ls : Array Slot) (cells slots : Nat), law_I G s b0 gx hm o ad (k + 1) (4 * k) H locs ls cells slots → W p l e room_1 s m #[Value.ref b0] below meth c H locs cells slots (lw_Z below #[Value.ref b0] s) (F0 m 1495 ls [])) : W p l e room_1 s m #[Value.ref b0] below meth c H locs cells slots (lw_Z below #[Value.ref b0] s) (F0 m 1169 ls []) := by
  obtain ⟨b, x, w, lst, Mx, Mt, f, rfl, hA, ho, hq, hM, hd, hds, hT, hl, hce, hsl⟩ := hI
  have hbA : ¬ (fun q => s.heap.size ≤ q) b0 := Nat.not_le.mpr hbl
  have hi := q_inv_mono hq.1 hk
  refine lv_aload_n X.1 X.2.1 dL_law_1169 rfl (lv_at hl 2 rfl) ?_
  refine lv_aload_n X.1 X.2.1 dL_law_1170 rfl (lv_at hl 1 rfl) ?_
  refine lv_iload X.1 X.2.1 dL_law_1171 (lv_at hl 0 rfl) ?_
  refine lv_iconst X.1 X.2.1 (v := 1) dL_law_1173 (by decide) ?_
  refine lv_iadd X.1 X.2.1 dL_law_1174 ?_
  refine mm_top (w := nI (4 * k + 1)) (nI_add _ 1) ?_
  refine va_sld X.1 X.2.1 hX hbl hbA hT.2.2 (vp_in_nI (n := 4 * k + 1) (by omega) (by omega)) dL_law_1175 ?_
  refine mm_top (w := xs (4 * k + 1)) (by rw [nI_clamp (by omega)]) ?_
  refine lv_aload_n X.1 X.2.1 dL_law_1176 rfl (lv_at hl 4 rfl) ?_
  refine mr_goX X hT hds (mr_runSN X hN hT cb_RL_143 kw671 kw672 (l_close hfl hA ho hi hd) rfl rfl hl.1 ⟨Nat.le_of_ble_eq_true rfl, Nat.le_of_ble_eq_true rfl⟩ (Nat.le_of_ble_eq_true rfl) dL_law_1177 ⟨by show cells + 2 ≤ 601024; omega, by show slots + 12 ≤ 7293034; omega⟩) (fun E ce9 q9 H locs hp hT h1 h2 h3 => absurd hp id) (fun v M1 H locs hp hds hT => ?_)
  obtain ⟨r, rfl, Mx1, f1, rfl, rfl, hd1, ⟨b1, e00, w1, hA1, ho1⟩, han⟩ := hp
  refine W.eq (g2 := F0 m 1180 ls (.int _ :: _)) rfl ?_
  rw [mw_or_comm hds] at hT
  have hds := mw_ds_comm hds
  refine lv_istore X.1 X.2.1 dL_law_1180 hl (by decide) rfl (fun ls hl => ?_)
  refine lv_aload_n X.1 X.2.1 dL_law_1182 rfl (lv_at hl 4 rfl) ?_
  refine lv_aload_n X.1 X.2.1 dL_law_1183 rfl (lv_at hl 2 rfl) ?_
  refine lv_iload X.1 X.2.1 dL_law_1184 (lv_at hl 1 rfl) ?_
  refine lv_iconst X.1 X.2.1 (v := 1) dL_law_1186 (by decide) ?_
  refine lv_iadd X.1 X.2.1 dL_law_1187 ?_
  refine mm_top (w := nI (4 * k + 1)) (nI_add _ 1) ?_
  refine va_sld X.1 X.2.1 hX hbl hbA hT.2.2 (vp_in_nI (n := 4 * k + 1) (by omega) (by omega)) dL_law_1188 ?_
  refine mm_top (w := xs (4 * k + 1)) (by rw [nI_clamp (by omega)]) ?_
  refine mr_go X hT hds (mr_runV X hT cb_RL_145 kw963 kw964 kw965 (m_close hfl hM hi) (mr_cell X hT (mw_or_l hM.1) rfl) rfl rfl hl.1 ⟨Nat.le_of_ble_eq_true rfl, Nat.le_of_ble_eq_true rfl⟩ (Nat.le_of_ble_eq_true rfl) dL_law_1189 ⟨by show cells + 2 + 0 ≤ 601024; omega, by show slots + 12 + 0 ≤ 7293034; omega⟩) (fun v Mt H locs hp hds hT => ?_)
  obtain ⟨r2, rfl, hans, hM⟩ := hp
  refine W.eq (g2 := F0 m 1192 ls (.int _ :: _)) rfl ?_
  refine lv_istore X.1 X.2.1 dL_law_1192 hl (by decide) rfl (fun ls hl => ?_)
  refine lv_aload_n X.1 X.2.1 dL_law_1194 rfl (lv_at hl 5 rfl) ?_
  refine mr_go X hT hds (mr_runV X hT cb_RL_93 kw822 kw823 kw824 (m_thrown hfl hM) (mr_cell X hT (mw_or_l hM.1) rfl) rfl rfl hl.1 ⟨Nat.le_of_ble_eq_true rfl, Nat.le_of_ble_eq_true rfl⟩ (Nat.le_of_ble_eq_true rfl) dL_law_1195 ⟨by show cells + 2 + 0 + 0 ≤ 601024; omega, by show slots + 12 + 0 + 0 ≤ 7293034; omega⟩) (fun v Mt H locs hp hds hT => ?_)
  obtain ⟨r3, rfl, rfl, hM⟩ := hp
  refine W.eq (g2 := F0 m 1198 ls (.int _ :: _)) rfl ?_
  refine lv_iload X.1 X.2.1 dL_law_1198 (lv_at hl 1 rfl) ?_
  refine lv_icmp_eq X.1 X.2.1 (tgt := 1205) dL_law_1200 (by decide) (fun c1200 => ?_) (fun c1200 => absurd rfl c1200)
  refine lv_iload X.1 X.2.1 dL_law_1205 (lv_at hl 1 rfl) ?_
  refine lv_if_ne X.1 X.2.1 (tgt := 1222) dL_law_1207 (by decide) (fun c2 => ?_) (fun c2 => ?_)
  · skip
    refine lv_goto X.1 X.2.1 (tgt := 1495) dL_law_1222 (by decide) ?_
    refine nx _ _ _ _ _ ?_
    exact ⟨b1, _, w1, _, Mx1, Mt, f1, e00, hA1, ho1, law_q (fun hc => st_close hq hk hc) hq, hM, hd1, mw_ds_comm hds, by rw [mw_or_comm hds] at hT; exact hT, lv_sub hl [2, 3, 4, 5, 6] rfl, by show cells + 2 + 0 + 0 ≤ 100 + 20 * (k + 1); omega, by show slots + 12 + 0 + 0 ≤ 100000 + 3000 * (k + 1); omega⟩
  · skip
    refine lv_aload_n X.1 X.2.1 dL_law_1210 rfl (lv_at hl 6 rfl) ?_
    refine lv_iconst X.1 X.2.1 (v := 0) dL_law_1211 (by decide) ?_
    refine mr_lald X hT (law_o hds hd1) (vp_in_nI (n := 0) (show 0 < 1 by decide) (by decide)) dL_law_1212 ?_
    refine lv_iload X.1 X.2.1 dL_law_1213 (lv_at hl 0 rfl) ?_
    refine lv_i2l X.1 X.2.1 dL_law_1215 rfl ?_
    refine W.lcmp X.1 X.2.1 dL_law_1216 ?_
    refine lv_if_eq X.1 X.2.1 (tgt := 1222) dL_law_1217 (by decide) (fun c3 => ?_) (fun c3 => absurd (law_cmp ((congrArg f1 law_0).trans (by rw [han c2, hans c2]))) c3)
    refine lv_goto X.1 X.2.1 (tgt := 1495) dL_law_1222 (by decide) ?_
    refine nx _ _ _ _ _ ?_
    exact ⟨b1, _, w1, _, Mx1, Mt, f1, e00, hA1, ho1, law_q (fun hc => st_close hq hk hc) hq, hM, hd1, mw_ds_comm hds, by rw [mw_or_comm hds] at hT; exact hT, lv_sub hl [2, 3, 4, 5, 6] rfl, by show cells + 2 + 0 + 0 ≤ 100 + 20 * (k + 1); omega, by show slots + 12 + 0 + 0 ≤ 100000 + 3000 * (k + 1); omega⟩

set_option maxHeartbeats 4000000 in
set_option maxRecDepth 100000 in
theorem law_c16 {p : Program} {l : Launch} {e : Env} {s : State} {m : MethodId} {below : List Frame} {meth : Method} {c : Code} {G : mw_G} (hfl : l.stackTraces = false) (X : mw_B p l s m meth c code 7 RL G (fun q => s.heap.size ≤ q)) (hN : mw_N s) {b0 L : Nat} {xs : Nat → Int32} (hX : va_X b0 L xs s s.heap) (hbl : b0 < s.heap.size) {gx hm o : Nat} {ad : Nat → Nat} {k : Nat} {H : Heap} {locs : List Loc} {ls : Array Slot} {cells slots : Nat} (hk : k ≤ 511) (hkL : 4 * k + 4 ≤ L) (hL : L ≤ 2048) (hI : law_I G s b0 gx hm o ad k (4 * k) H locs ls cells slots) (nx : ∀ (H : Heap) (locs : List Loc) (ls : Array Slot) (cells slots : Nat), law_I G s b0 gx hm o ad (k + 1) (4 * k) H locs ls cells slots → W p l e room_1 s m #[Value.ref b0] below meth c H locs cells slots (lw_Z below #[Value.ref b0] s) (F0 m 1495 ls [])) : W p l e room_1 s m #[Value.ref b0] below meth c H locs cells slots (lw_Z below #[Value.ref b0] s) (F0 m 1225 ls []) := by
  obtain ⟨b, x, w, lst, Mx, Mt, f, rfl, hA, ho, hq, hM, hd, hds, hT, hl, hce, hsl⟩ := hI
  have hbA : ¬ (fun q => s.heap.size ≤ q) b0 := Nat.not_le.mpr hbl
  have hi := q_inv_mono hq.1 hk
  refine lv_aload_n X.1 X.2.1 dL_law_1225 rfl (lv_at hl 2 rfl) ?_
  refine lv_aload_n X.1 X.2.1 dL_law_1226 rfl (lv_at hl 1 rfl) ?_
  refine lv_iload X.1 X.2.1 dL_law_1227 (lv_at hl 0 rfl) ?_
  refine lv_iconst X.1 X.2.1 (v := 1) dL_law_1229 (by decide) ?_
  refine lv_iadd X.1 X.2.1 dL_law_1230 ?_
  refine mm_top (w := nI (4 * k + 1)) (nI_add _ 1) ?_
  refine va_sld X.1 X.2.1 hX hbl hbA hT.2.2 (vp_in_nI (n := 4 * k + 1) (by omega) (by omega)) dL_law_1231 ?_
  refine mm_top (w := xs (4 * k + 1)) (by rw [nI_clamp (by omega)]) ?_
  refine lv_aload_n X.1 X.2.1 dL_law_1232 rfl (lv_at hl 4 rfl) ?_
  refine mr_goX X hT hds (mr_runSN X hN hT cb_RL_146 kw678 kw679 (l_isOpen hfl hA ho hi hd) rfl rfl hl.1 ⟨Nat.le_of_ble_eq_true rfl, Nat.le_of_ble_eq_true rfl⟩ (Nat.le_of_ble_eq_true rfl) dL_law_1233 ⟨by show cells + 1 ≤ 601024; omega, by show slots + 6 ≤ 7293034; omega⟩) (fun E ce9 q9 H locs hp hT h1 h2 h3 => absurd hp id) (fun v M1 H locs hp hds hT => ?_)
  obtain ⟨r, rfl, Mx1, f1, rfl, rfl, hd1, ⟨b1, e00, w1, hA1, ho1⟩, han⟩ := hp
  refine W.eq (g2 := F0 m 1236 ls (.int _ :: _)) rfl ?_
  rw [mw_or_comm hds] at hT
  have hds := mw_ds_comm hds
  refine lv_istore X.1 X.2.1 dL_law_1236 hl (by decide) rfl (fun ls hl => ?_)
  refine lv_aload_n X.1 X.2.1 dL_law_1238 rfl (lv_at hl 4 rfl) ?_
  refine lv_aload_n X.1 X.2.1 dL_law_1239 rfl (lv_at hl 2 rfl) ?_
  refine lv_iload X.1 X.2.1 dL_law_1240 (lv_at hl 1 rfl) ?_
  refine lv_iconst X.1 X.2.1 (v := 1) dL_law_1242 (by decide) ?_
  refine lv_iadd X.1 X.2.1 dL_law_1243 ?_
  refine mm_top (w := nI (4 * k + 1)) (nI_add _ 1) ?_
  refine va_sld X.1 X.2.1 hX hbl hbA hT.2.2 (vp_in_nI (n := 4 * k + 1) (by omega) (by omega)) dL_law_1244 ?_
  refine mm_top (w := xs (4 * k + 1)) (by rw [nI_clamp (by omega)]) ?_
  refine mr_go X hT hds (mr_runV X hT cb_RL_148 kw967 kw968 kw969 (m_isOpen hfl hM hi) (mr_cell X hT (mw_or_l hM.1) rfl) rfl rfl hl.1 ⟨Nat.le_of_ble_eq_true rfl, Nat.le_of_ble_eq_true rfl⟩ (Nat.le_of_ble_eq_true rfl) dL_law_1245 ⟨by show cells + 1 + 0 ≤ 601024; omega, by show slots + 6 + 0 ≤ 7293034; omega⟩) (fun v Mt H locs hp hds hT => ?_)
  obtain ⟨r2, rfl, hans, hM⟩ := hp
  refine W.eq (g2 := F0 m 1248 ls (.int _ :: _)) rfl ?_
  refine lv_istore X.1 X.2.1 dL_law_1248 hl (by decide) rfl (fun ls hl => ?_)
  refine lv_aload_n X.1 X.2.1 dL_law_1250 rfl (lv_at hl 5 rfl) ?_
  refine mr_go X hT hds (mr_runV X hT cb_RL_93 kw822 kw823 kw824 (m_thrown hfl hM) (mr_cell X hT (mw_or_l hM.1) rfl) rfl rfl hl.1 ⟨Nat.le_of_ble_eq_true rfl, Nat.le_of_ble_eq_true rfl⟩ (Nat.le_of_ble_eq_true rfl) dL_law_1251 ⟨by show cells + 1 + 0 + 0 ≤ 601024; omega, by show slots + 6 + 0 + 0 ≤ 7293034; omega⟩) (fun v Mt H locs hp hds hT => ?_)
  obtain ⟨r3, rfl, rfl, hM⟩ := hp
  refine W.eq (g2 := F0 m 1254 ls (.int _ :: _)) rfl ?_
  refine lv_iload X.1 X.2.1 dL_law_1254 (lv_at hl 1 rfl) ?_
  refine lv_icmp_eq X.1 X.2.1 (tgt := 1261) dL_law_1256 (by decide) (fun c1256 => ?_) (fun c1256 => absurd rfl c1256)
  refine lv_iload X.1 X.2.1 dL_law_1261 (lv_at hl 1 rfl) ?_
  refine lv_if_ne X.1 X.2.1 (tgt := 1285) dL_law_1263 (by decide) (fun c2 => ?_) (fun c2 => ?_)
  · skip
    refine lv_goto X.1 X.2.1 (tgt := 1495) dL_law_1285 (by decide) ?_
    refine nx _ _ _ _ _ ?_
    exact ⟨b1, _, w1, _, Mx1, Mt, f1, e00, hA1, ho1, law_q (fun hc => st_same hq) hq, hM, hd1, mw_ds_comm hds, by rw [mw_or_comm hds] at hT; exact hT, lv_sub hl [2, 3, 4, 5, 6] rfl, by show cells + 1 + 0 + 0 ≤ 100 + 20 * (k + 1); omega, by show slots + 6 + 0 + 0 ≤ 100000 + 3000 * (k + 1); omega⟩
  · skip
    refine lv_aload_n X.1 X.2.1 dL_law_1266 rfl (lv_at hl 6 rfl) ?_
    refine lv_iconst X.1 X.2.1 (v := 0) dL_law_1267 (by decide) ?_
    refine mr_lald X hT (law_o hds hd1) (vp_in_nI (n := 0) (show 0 < 1 by decide) (by decide)) dL_law_1268 ?_
    refine lv_iload X.1 X.2.1 dL_law_1269 (lv_at hl 0 rfl) ?_
    refine lv_if_eq X.1 X.2.1 (tgt := 1278) dL_law_1271 (by decide) (fun c5 => ?_) (fun c5 => ?_)
    · skip
      refine lv_lconst X.1 X.2.1 (v := 0) dL_law_1278 (by decide) ?_
      refine W.lcmp X.1 X.2.1 dL_law_1279 ?_
      refine lv_if_eq X.1 X.2.1 (tgt := 1285) dL_law_1280 (by decide) (fun c3 => ?_) (fun c3 => absurd (law_cmp ((congrArg f1 law_0).trans (by rw [han c2, ← hans c2]; first | exact if_pos c5 | exact if_neg c5))) c3)
      refine lv_goto X.1 X.2.1 (tgt := 1495) dL_law_1285 (by decide) ?_
      refine nx _ _ _ _ _ ?_
      exact ⟨b1, _, w1, _, Mx1, Mt, f1, e00, hA1, ho1, law_q (fun hc => st_same hq) hq, hM, hd1, mw_ds_comm hds, by rw [mw_or_comm hds] at hT; exact hT, lv_sub hl [2, 3, 4, 5, 6] rfl, by show cells + 1 + 0 + 0 ≤ 100 + 20 * (k + 1); omega, by show slots + 6 + 0 + 0 ≤ 100000 + 3000 * (k + 1); omega⟩
    · skip
      refine lv_lconst X.1 X.2.1 (v := 1) dL_law_1274 (by decide) ?_
      refine lv_goto X.1 X.2.1 (tgt := 1279) dL_law_1275 (by decide) ?_
      refine W.lcmp X.1 X.2.1 dL_law_1279 ?_
      refine lv_if_eq X.1 X.2.1 (tgt := 1285) dL_law_1280 (by decide) (fun c3 => ?_) (fun c3 => absurd (law_cmp ((congrArg f1 law_0).trans (by rw [han c2, ← hans c2]; first | exact if_pos c5 | exact if_neg c5))) c3)
      refine lv_goto X.1 X.2.1 (tgt := 1495) dL_law_1285 (by decide) ?_
      refine nx _ _ _ _ _ ?_
      exact ⟨b1, _, w1, _, Mx1, Mt, f1, e00, hA1, ho1, law_q (fun hc => st_same hq) hq, hM, hd1, mw_ds_comm hds, by rw [mw_or_comm hds] at hT; exact hT, lv_sub hl [2, 3, 4, 5, 6] rfl, by show cells + 1 + 0 + 0 ≤ 100 + 20 * (k + 1); omega, by show slots + 6 + 0 + 0 ≤ 100000 + 3000 * (k + 1); omega⟩

set_option maxHeartbeats 4000000 in
set_option maxRecDepth 100000 in
theorem law_c17 {p : Program} {l : Launch} {e : Env} {s : State} {m : MethodId} {below : List Frame} {meth : Method} {c : Code} {G : mw_G} (hfl : l.stackTraces = false) (X : mw_B p l s m meth c code 7 RL G (fun q => s.heap.size ≤ q)) (hN : mw_N s) {b0 L : Nat} {xs : Nat → Int32} (hX : va_X b0 L xs s s.heap) (hbl : b0 < s.heap.size) {gx hm o : Nat} {ad : Nat → Nat} {k : Nat} {H : Heap} {locs : List Loc} {ls : Array Slot} {cells slots : Nat} (hk : k ≤ 511) (hkL : 4 * k + 4 ≤ L) (hL : L ≤ 2048) (hI : law_I G s b0 gx hm o ad k (4 * k) H locs ls cells slots) (nx : ∀ (H : Heap) (locs : List Loc) (ls : Array Slot) (cells slots : Nat), law_I G s b0 gx hm o ad (k + 1) (4 * k) H locs ls cells slots → W p l e room_1 s m #[Value.ref b0] below meth c H locs cells slots (lw_Z below #[Value.ref b0] s) (F0 m 1495 ls [])) : W p l e room_1 s m #[Value.ref b0] below meth c H locs cells slots (lw_Z below #[Value.ref b0] s) (F0 m 1288 ls []) := by
  obtain ⟨b, x, w, lst, Mx, Mt, f, rfl, hA, ho, hq, hM, hd, hds, hT, hl, hce, hsl⟩ := hI
  have hbA : ¬ (fun q => s.heap.size ≤ q) b0 := Nat.not_le.mpr hbl
  have hi := q_inv_mono hq.1 hk
  refine lv_aload_n X.1 X.2.1 dL_law_1288 rfl (lv_at hl 2 rfl) ?_
  rw [mw_or_assoc] at hT
  refine mr_go X hT (law_ds hd hds) (mr_runV X hT cb_RL_149 kw111 kw112 kw113 (c_openSessions hfl hA ho hi) (mr_cell X hT (mw_or_l hA.gate) rfl) rfl rfl hl.1 ⟨Nat.le_of_ble_eq_true rfl, Nat.le_of_ble_eq_true rfl⟩ (Nat.le_of_ble_eq_true rfl) dL_law_1289 ⟨by show cells + 0 ≤ 601024; omega, by show slots + 0 ≤ 7293034; omega⟩) (fun v M1 H locs hp _ hT => ?_)
  obtain ⟨r, rfl, rfl, rfl⟩ := hp
  refine W.eq (g2 := F0 m 1292 ls (.int _ :: _)) rfl ?_
  rw [← mw_or_assoc, mw_or_comm hds] at hT
  have hds := mw_ds_comm hds
  refine lv_aload_n X.1 X.2.1 dL_law_1292 rfl (lv_at hl 3 rfl) ?_
  refine mr_go X hT hds (mr_runV X hT cb_RL_152 kw971 kw972 kw973 (m_openSessions hfl hM hi) (mr_cell X hT (mw_or_l hM.1) rfl) rfl rfl hl.1 ⟨Nat.le_of_ble_eq_true rfl, Nat.le_of_ble_eq_true rfl⟩ (Nat.le_of_ble_eq_true rfl) dL_law_1293 ⟨by show cells + 0 + 0 ≤ 601024; omega, by show slots + 0 + 0 ≤ 7293034; omega⟩) (fun v Mt H locs hp hds hT => ?_)
  obtain ⟨r3, rfl, rfl, hM⟩ := hp
  refine W.eq (g2 := F0 m 1296 ls (.int _ :: _)) rfl ?_
  refine lv_icmp_eq X.1 X.2.1 (tgt := 1495) dL_law_1296 (by decide) (fun c1296 => ?_) (fun c1296 => absurd rfl c1296)
  refine nx _ _ _ _ _ ?_
  exact ⟨b, x, w, _, Mx, Mt, f, rfl, hA, ho, st_same hq, hM, hd, mw_ds_comm hds, by rw [mw_or_comm hds] at hT; exact hT, lv_sub hl [0, 1, 2, 3, 4] rfl, by show cells + 0 + 0 ≤ 100 + 20 * (k + 1); omega, by show slots + 0 + 0 ≤ 100000 + 3000 * (k + 1); omega⟩

set_option maxHeartbeats 4000000 in
set_option maxRecDepth 100000 in
theorem law_c18 {p : Program} {l : Launch} {e : Env} {s : State} {m : MethodId} {below : List Frame} {meth : Method} {c : Code} {G : mw_G} (hfl : l.stackTraces = false) (X : mw_B p l s m meth c code 7 RL G (fun q => s.heap.size ≤ q)) (hN : mw_N s) {b0 L : Nat} {xs : Nat → Int32} (hX : va_X b0 L xs s s.heap) (hbl : b0 < s.heap.size) {gx hm o : Nat} {ad : Nat → Nat} {k : Nat} {H : Heap} {locs : List Loc} {ls : Array Slot} {cells slots : Nat} (hk : k ≤ 511) (hkL : 4 * k + 4 ≤ L) (hL : L ≤ 2048) (hI : law_I G s b0 gx hm o ad k (4 * k) H locs ls cells slots) (nx : ∀ (H : Heap) (locs : List Loc) (ls : Array Slot) (cells slots : Nat), law_I G s b0 gx hm o ad (k + 1) (4 * k) H locs ls cells slots → W p l e room_1 s m #[Value.ref b0] below meth c H locs cells slots (lw_Z below #[Value.ref b0] s) (F0 m 1495 ls [])) : W p l e room_1 s m #[Value.ref b0] below meth c H locs cells slots (lw_Z below #[Value.ref b0] s) (F0 m 1301 ls []) := by
  obtain ⟨b, x, w, lst, Mx, Mt, f, rfl, hA, ho, hq, hM, hd, hds, hT, hl, hce, hsl⟩ := hI
  have hbA : ¬ (fun q => s.heap.size ≤ q) b0 := Nat.not_le.mpr hbl
  have hi := q_inv_mono hq.1 hk
  refine lv_aload_n X.1 X.2.1 dL_law_1301 rfl (lv_at hl 2 rfl) ?_
  refine lv_aload_n X.1 X.2.1 dL_law_1302 rfl (lv_at hl 1 rfl) ?_
  refine lv_iload X.1 X.2.1 dL_law_1303 (lv_at hl 0 rfl) ?_
  refine lv_iconst X.1 X.2.1 (v := 1) dL_law_1305 (by decide) ?_
  refine lv_iadd X.1 X.2.1 dL_law_1306 ?_
  refine mm_top (w := nI (4 * k + 1)) (nI_add _ 1) ?_
  refine va_sld X.1 X.2.1 hX hbl hbA hT.2.2 (vp_in_nI (n := 4 * k + 1) (by omega) (by omega)) dL_law_1307 ?_
  refine mm_top (w := xs (4 * k + 1)) (by rw [nI_clamp (by omega)]) ?_
  refine lv_aload_n X.1 X.2.1 dL_law_1308 rfl (lv_at hl 4 rfl) ?_
  refine mr_goX X hT hds (mr_runSN X hN hT cb_RL_153 kw685 kw686 (l_pass hfl hA ho hi hd) rfl rfl hl.1 ⟨Nat.le_of_ble_eq_true rfl, Nat.le_of_ble_eq_true rfl⟩ (Nat.le_of_ble_eq_true rfl) dL_law_1309 ⟨by show cells + 1 ≤ 601024; omega, by show slots + 6 ≤ 7293034; omega⟩) (fun E ce9 q9 H locs hp hT h1 h2 h3 => absurd hp id) (fun v M1 H locs hp hds hT => ?_)
  obtain ⟨r, rfl, Mx1, f1, rfl, rfl, hd1, ⟨b1, e00, w1, hA1, ho1⟩, han⟩ := hp
  refine W.eq (g2 := F0 m 1312 ls (.int _ :: _)) rfl ?_
  rw [mw_or_comm hds] at hT
  have hds := mw_ds_comm hds
  refine lv_istore X.1 X.2.1 dL_law_1312 hl (by decide) rfl (fun ls hl => ?_)
  refine lv_aload_n X.1 X.2.1 dL_law_1314 rfl (lv_at hl 4 rfl) ?_
  refine lv_aload_n X.1 X.2.1 dL_law_1315 rfl (lv_at hl 2 rfl) ?_
  refine lv_iload X.1 X.2.1 dL_law_1316 (lv_at hl 1 rfl) ?_
  refine lv_iconst X.1 X.2.1 (v := 1) dL_law_1318 (by decide) ?_
  refine lv_iadd X.1 X.2.1 dL_law_1319 ?_
  refine mm_top (w := nI (4 * k + 1)) (nI_add _ 1) ?_
  refine va_sld X.1 X.2.1 hX hbl hbA hT.2.2 (vp_in_nI (n := 4 * k + 1) (by omega) (by omega)) dL_law_1320 ?_
  refine mm_top (w := xs (4 * k + 1)) (by rw [nI_clamp (by omega)]) ?_
  refine mr_go X hT hds (mr_runV X hT cb_RL_155 kw975 kw976 kw977 (m_pass hfl hM hi) (mr_cell X hT (mw_or_l hM.1) rfl) rfl rfl hl.1 ⟨Nat.le_of_ble_eq_true rfl, Nat.le_of_ble_eq_true rfl⟩ (Nat.le_of_ble_eq_true rfl) dL_law_1321 ⟨by show cells + 1 + 0 ≤ 601024; omega, by show slots + 6 + 0 ≤ 7293034; omega⟩) (fun v Mt H locs hp hds hT => ?_)
  obtain ⟨r2, rfl, hans, hM⟩ := hp
  refine W.eq (g2 := F0 m 1324 ls (.int _ :: _)) rfl ?_
  refine lv_istore X.1 X.2.1 dL_law_1324 hl (by decide) rfl (fun ls hl => ?_)
  refine lv_aload_n X.1 X.2.1 dL_law_1326 rfl (lv_at hl 5 rfl) ?_
  refine mr_go X hT hds (mr_runV X hT cb_RL_93 kw822 kw823 kw824 (m_thrown hfl hM) (mr_cell X hT (mw_or_l hM.1) rfl) rfl rfl hl.1 ⟨Nat.le_of_ble_eq_true rfl, Nat.le_of_ble_eq_true rfl⟩ (Nat.le_of_ble_eq_true rfl) dL_law_1327 ⟨by show cells + 1 + 0 + 0 ≤ 601024; omega, by show slots + 6 + 0 + 0 ≤ 7293034; omega⟩) (fun v Mt H locs hp hds hT => ?_)
  obtain ⟨r3, rfl, rfl, hM⟩ := hp
  refine W.eq (g2 := F0 m 1330 ls (.int _ :: _)) rfl ?_
  refine lv_iload X.1 X.2.1 dL_law_1330 (lv_at hl 1 rfl) ?_
  refine lv_icmp_eq X.1 X.2.1 (tgt := 1337) dL_law_1332 (by decide) (fun c1332 => ?_) (fun c1332 => absurd rfl c1332)
  refine lv_iload X.1 X.2.1 dL_law_1337 (lv_at hl 1 rfl) ?_
  refine lv_if_ne X.1 X.2.1 (tgt := 1354) dL_law_1339 (by decide) (fun c2 => ?_) (fun c2 => ?_)
  · skip
    refine lv_goto X.1 X.2.1 (tgt := 1495) dL_law_1354 (by decide) ?_
    refine nx _ _ _ _ _ ?_
    exact ⟨b1, _, w1, _, Mx1, Mt, f1, e00, hA1, ho1, law_q (fun hc => st_pass hq hc) hq, hM, hd1, mw_ds_comm hds, by rw [mw_or_comm hds] at hT; exact hT, lv_sub hl [2, 3, 4, 5, 6] rfl, by show cells + 1 + 0 + 0 ≤ 100 + 20 * (k + 1); omega, by show slots + 6 + 0 + 0 ≤ 100000 + 3000 * (k + 1); omega⟩
  · skip
    refine lv_aload_n X.1 X.2.1 dL_law_1342 rfl (lv_at hl 6 rfl) ?_
    refine lv_iconst X.1 X.2.1 (v := 0) dL_law_1343 (by decide) ?_
    refine mr_lald X hT (law_o hds hd1) (vp_in_nI (n := 0) (show 0 < 1 by decide) (by decide)) dL_law_1344 ?_
    refine lv_iload X.1 X.2.1 dL_law_1345 (lv_at hl 0 rfl) ?_
    refine lv_i2l X.1 X.2.1 dL_law_1347 rfl ?_
    refine W.lcmp X.1 X.2.1 dL_law_1348 ?_
    refine lv_if_eq X.1 X.2.1 (tgt := 1354) dL_law_1349 (by decide) (fun c3 => ?_) (fun c3 => absurd (law_cmp ((congrArg f1 law_0).trans (by rw [han c2, hans c2]))) c3)
    refine lv_goto X.1 X.2.1 (tgt := 1495) dL_law_1354 (by decide) ?_
    refine nx _ _ _ _ _ ?_
    exact ⟨b1, _, w1, _, Mx1, Mt, f1, e00, hA1, ho1, law_q (fun hc => st_pass hq hc) hq, hM, hd1, mw_ds_comm hds, by rw [mw_or_comm hds] at hT; exact hT, lv_sub hl [2, 3, 4, 5, 6] rfl, by show cells + 1 + 0 + 0 ≤ 100 + 20 * (k + 1); omega, by show slots + 6 + 0 + 0 ≤ 100000 + 3000 * (k + 1); omega⟩

set_option maxHeartbeats 4000000 in
set_option maxRecDepth 100000 in
theorem law_c19 {p : Program} {l : Launch} {e : Env} {s : State} {m : MethodId} {below : List Frame} {meth : Method} {c : Code} {G : mw_G} (hfl : l.stackTraces = false) (X : mw_B p l s m meth c code 7 RL G (fun q => s.heap.size ≤ q)) (hN : mw_N s) {b0 L : Nat} {xs : Nat → Int32} (hX : va_X b0 L xs s s.heap) (hbl : b0 < s.heap.size) {gx hm o : Nat} {ad : Nat → Nat} {k : Nat} {H : Heap} {locs : List Loc} {ls : Array Slot} {cells slots : Nat} (hk : k ≤ 511) (hkL : 4 * k + 4 ≤ L) (hL : L ≤ 2048) (hI : law_I G s b0 gx hm o ad k (4 * k) H locs ls cells slots) (nx : ∀ (H : Heap) (locs : List Loc) (ls : Array Slot) (cells slots : Nat), law_I G s b0 gx hm o ad (k + 1) (4 * k) H locs ls cells slots → W p l e room_1 s m #[Value.ref b0] below meth c H locs cells slots (lw_Z below #[Value.ref b0] s) (F0 m 1495 ls [])) : W p l e room_1 s m #[Value.ref b0] below meth c H locs cells slots (lw_Z below #[Value.ref b0] s) (F0 m 1357 ls []) := by
  obtain ⟨b, x, w, lst, Mx, Mt, f, rfl, hA, ho, hq, hM, hd, hds, hT, hl, hce, hsl⟩ := hI
  have hbA : ¬ (fun q => s.heap.size ≤ q) b0 := Nat.not_le.mpr hbl
  have hi := q_inv_mono hq.1 hk
  refine lv_aload_n X.1 X.2.1 dL_law_1357 rfl (lv_at hl 2 rfl) ?_
  rw [mw_or_assoc] at hT
  refine mr_go X hT (law_ds hd hds) (mr_runV X hT cb_RL_156 kw115 kw116 kw117 (c_clock hfl hA ho hi) (mr_cell X hT (mw_or_l hA.gate) rfl) rfl rfl hl.1 ⟨Nat.le_of_ble_eq_true rfl, Nat.le_of_ble_eq_true rfl⟩ (Nat.le_of_ble_eq_true rfl) dL_law_1358 ⟨by show cells + 0 ≤ 601024; omega, by show slots + 0 ≤ 7293034; omega⟩) (fun v M1 H locs hp _ hT => ?_)
  obtain ⟨r, rfl, rfl, rfl⟩ := hp
  refine W.eq (g2 := F0 m 1361 ls (.int _ :: _)) rfl ?_
  rw [← mw_or_assoc, mw_or_comm hds] at hT
  have hds := mw_ds_comm hds
  refine lv_aload_n X.1 X.2.1 dL_law_1361 rfl (lv_at hl 3 rfl) ?_
  refine mr_go X hT hds (mr_runV X hT cb_RL_159 kw979 kw980 kw981 (m_clock hfl hM) (mr_cell X hT (mw_or_l hM.1) rfl) rfl rfl hl.1 ⟨Nat.le_of_ble_eq_true rfl, Nat.le_of_ble_eq_true rfl⟩ (Nat.le_of_ble_eq_true rfl) dL_law_1362 ⟨by show cells + 0 + 0 ≤ 601024; omega, by show slots + 0 + 0 ≤ 7293034; omega⟩) (fun v Mt H locs hp hds hT => ?_)
  obtain ⟨r3, rfl, rfl, hM⟩ := hp
  refine W.eq (g2 := F0 m 1365 ls (.int _ :: _)) rfl ?_
  refine lv_icmp_eq X.1 X.2.1 (tgt := 1495) dL_law_1365 (by decide) (fun c1365 => ?_) (fun c1365 => absurd rfl c1365)
  refine nx _ _ _ _ _ ?_
  exact ⟨b, x, w, _, Mx, Mt, f, rfl, hA, ho, st_same hq, hM, hd, mw_ds_comm hds, by rw [mw_or_comm hds] at hT; exact hT, lv_sub hl [0, 1, 2, 3, 4] rfl, by show cells + 0 + 0 ≤ 100 + 20 * (k + 1); omega, by show slots + 0 + 0 ≤ 100000 + 3000 * (k + 1); omega⟩

set_option maxHeartbeats 4000000 in
set_option maxRecDepth 100000 in
theorem law_c20 {p : Program} {l : Launch} {e : Env} {s : State} {m : MethodId} {below : List Frame} {meth : Method} {c : Code} {G : mw_G} (hfl : l.stackTraces = false) (X : mw_B p l s m meth c code 7 RL G (fun q => s.heap.size ≤ q)) (hN : mw_N s) {b0 L : Nat} {xs : Nat → Int32} (hX : va_X b0 L xs s s.heap) (hbl : b0 < s.heap.size) {gx hm o : Nat} {ad : Nat → Nat} {k : Nat} {H : Heap} {locs : List Loc} {ls : Array Slot} {cells slots : Nat} (hk : k ≤ 511) (hkL : 4 * k + 4 ≤ L) (hL : L ≤ 2048) (hI : law_I G s b0 gx hm o ad k (4 * k) H locs ls cells slots) (nx : ∀ (H : Heap) (locs : List Loc) (ls : Array Slot) (cells slots : Nat), law_I G s b0 gx hm o ad (k + 1) (4 * k) H locs ls cells slots → W p l e room_1 s m #[Value.ref b0] below meth c H locs cells slots (lw_Z below #[Value.ref b0] s) (F0 m 1495 ls [])) : W p l e room_1 s m #[Value.ref b0] below meth c H locs cells slots (lw_Z below #[Value.ref b0] s) (F0 m 1370 ls []) := by
  obtain ⟨b, x, w, lst, Mx, Mt, f, rfl, hA, ho, hq, hM, hd, hds, hT, hl, hce, hsl⟩ := hI
  have hbA : ¬ (fun q => s.heap.size ≤ q) b0 := Nat.not_le.mpr hbl
  have hi := q_inv_mono hq.1 hk
  refine lv_aload_n X.1 X.2.1 dL_law_1370 rfl (lv_at hl 2 rfl) ?_
  rw [mw_or_assoc] at hT
  refine mr_go X hT (law_ds hd hds) (mr_runV X hT cb_RL_160 kw119 kw120 kw121 (c_steps hfl hA ho hi) (mr_cell X hT (mw_or_l hA.gate) rfl) rfl rfl hl.1 ⟨Nat.le_of_ble_eq_true rfl, Nat.le_of_ble_eq_true rfl⟩ (Nat.le_of_ble_eq_true rfl) dL_law_1371 ⟨by show cells + 0 ≤ 601024; omega, by show slots + 0 ≤ 7293034; omega⟩) (fun v M1 H locs hp _ hT => ?_)
  obtain ⟨r, rfl, rfl, rfl⟩ := hp
  refine W.eq (g2 := F0 m 1374 ls (.int _ :: _)) rfl ?_
  rw [← mw_or_assoc, mw_or_comm hds] at hT
  have hds := mw_ds_comm hds
  refine lv_aload_n X.1 X.2.1 dL_law_1374 rfl (lv_at hl 3 rfl) ?_
  refine mr_go X hT hds (mr_runV X hT cb_RL_163 kw983 kw984 kw985 (m_steps hfl hM) (mr_cell X hT (mw_or_l hM.1) rfl) rfl rfl hl.1 ⟨Nat.le_of_ble_eq_true rfl, Nat.le_of_ble_eq_true rfl⟩ (Nat.le_of_ble_eq_true rfl) dL_law_1375 ⟨by show cells + 0 + 0 ≤ 601024; omega, by show slots + 0 + 0 ≤ 7293034; omega⟩) (fun v Mt H locs hp hds hT => ?_)
  obtain ⟨r3, rfl, rfl, hM⟩ := hp
  refine W.eq (g2 := F0 m 1378 ls (.int _ :: _)) rfl ?_
  refine lv_icmp_eq X.1 X.2.1 (tgt := 1495) dL_law_1378 (by decide) (fun c1378 => ?_) (fun c1378 => absurd rfl c1378)
  refine nx _ _ _ _ _ ?_
  exact ⟨b, x, w, _, Mx, Mt, f, rfl, hA, ho, st_same hq, hM, hd, mw_ds_comm hds, by rw [mw_or_comm hds] at hT; exact hT, lv_sub hl [0, 1, 2, 3, 4] rfl, by show cells + 0 + 0 ≤ 100 + 20 * (k + 1); omega, by show slots + 0 + 0 ≤ 100000 + 3000 * (k + 1); omega⟩

set_option maxHeartbeats 4000000 in
set_option maxRecDepth 100000 in
theorem law_c21 {p : Program} {l : Launch} {e : Env} {s : State} {m : MethodId} {below : List Frame} {meth : Method} {c : Code} {G : mw_G} (hfl : l.stackTraces = false) (X : mw_B p l s m meth c code 7 RL G (fun q => s.heap.size ≤ q)) (hN : mw_N s) {b0 L : Nat} {xs : Nat → Int32} (hX : va_X b0 L xs s s.heap) (hbl : b0 < s.heap.size) {gx hm o : Nat} {ad : Nat → Nat} {k : Nat} {H : Heap} {locs : List Loc} {ls : Array Slot} {cells slots : Nat} (hk : k ≤ 511) (hkL : 4 * k + 4 ≤ L) (hL : L ≤ 2048) (hI : law_I G s b0 gx hm o ad k (4 * k) H locs ls cells slots) (nx : ∀ (H : Heap) (locs : List Loc) (ls : Array Slot) (cells slots : Nat), law_I G s b0 gx hm o ad (k + 1) (4 * k) H locs ls cells slots → W p l e room_1 s m #[Value.ref b0] below meth c H locs cells slots (lw_Z below #[Value.ref b0] s) (F0 m 1495 ls [])) : W p l e room_1 s m #[Value.ref b0] below meth c H locs cells slots (lw_Z below #[Value.ref b0] s) (F0 m 1383 ls []) := by
  obtain ⟨b, x, w, lst, Mx, Mt, f, rfl, hA, ho, hq, hM, hd, hds, hT, hl, hce, hsl⟩ := hI
  have hbA : ¬ (fun q => s.heap.size ≤ q) b0 := Nat.not_le.mpr hbl
  have hi := q_inv_mono hq.1 hk
  refine lv_aload_n X.1 X.2.1 dL_law_1383 rfl (lv_at hl 2 rfl) ?_
  refine lv_aload_n X.1 X.2.1 dL_law_1384 rfl (lv_at hl 1 rfl) ?_
  refine lv_iload X.1 X.2.1 dL_law_1385 (lv_at hl 0 rfl) ?_
  refine lv_iconst X.1 X.2.1 (v := 1) dL_law_1387 (by decide) ?_
  refine lv_iadd X.1 X.2.1 dL_law_1388 ?_
  refine mm_top (w := nI (4 * k + 1)) (nI_add _ 1) ?_
  refine va_sld X.1 X.2.1 hX hbl hbA hT.2.2 (vp_in_nI (n := 4 * k + 1) (by omega) (by omega)) dL_law_1389 ?_
  refine mm_top (w := xs (4 * k + 1)) (by rw [nI_clamp (by omega)]) ?_
  refine lv_aload_n X.1 X.2.1 dL_law_1390 rfl (lv_at hl 4 rfl) ?_
  refine mr_goX X hT hds (mr_runSN X hN hT cb_RL_164 kw693 kw694 (l_kind hfl hA ho hi hd) rfl rfl hl.1 ⟨Nat.le_of_ble_eq_true rfl, Nat.le_of_ble_eq_true rfl⟩ (Nat.le_of_ble_eq_true rfl) dL_law_1391 ⟨by show cells + 1 ≤ 601024; omega, by show slots + 6 ≤ 7293034; omega⟩) (fun E ce9 q9 H locs hp hT h1 h2 h3 => absurd hp id) (fun v M1 H locs hp hds hT => ?_)
  obtain ⟨r, rfl, Mx1, f1, rfl, rfl, hd1, ⟨b1, e00, w1, hA1, ho1⟩, han⟩ := hp
  refine W.eq (g2 := F0 m 1394 ls (.int _ :: _)) rfl ?_
  rw [mw_or_comm hds] at hT
  have hds := mw_ds_comm hds
  refine lv_istore X.1 X.2.1 dL_law_1394 hl (by decide) rfl (fun ls hl => ?_)
  refine lv_aload_n X.1 X.2.1 dL_law_1396 rfl (lv_at hl 4 rfl) ?_
  refine lv_aload_n X.1 X.2.1 dL_law_1397 rfl (lv_at hl 2 rfl) ?_
  refine lv_iload X.1 X.2.1 dL_law_1398 (lv_at hl 1 rfl) ?_
  refine lv_iconst X.1 X.2.1 (v := 1) dL_law_1400 (by decide) ?_
  refine lv_iadd X.1 X.2.1 dL_law_1401 ?_
  refine mm_top (w := nI (4 * k + 1)) (nI_add _ 1) ?_
  refine va_sld X.1 X.2.1 hX hbl hbA hT.2.2 (vp_in_nI (n := 4 * k + 1) (by omega) (by omega)) dL_law_1402 ?_
  refine mm_top (w := xs (4 * k + 1)) (by rw [nI_clamp (by omega)]) ?_
  refine mr_go X hT hds (mr_runV X hT cb_RL_166 kw987 kw988 kw989 (m_kind hfl hM hi) (mr_cell X hT (mw_or_l hM.1) rfl) rfl rfl hl.1 ⟨Nat.le_of_ble_eq_true rfl, Nat.le_of_ble_eq_true rfl⟩ (Nat.le_of_ble_eq_true rfl) dL_law_1403 ⟨by show cells + 1 + 0 ≤ 601024; omega, by show slots + 6 + 0 ≤ 7293034; omega⟩) (fun v Mt H locs hp hds hT => ?_)
  obtain ⟨r2, rfl, hans, hM⟩ := hp
  refine W.eq (g2 := F0 m 1406 ls (.int _ :: _)) rfl ?_
  refine lv_istore X.1 X.2.1 dL_law_1406 hl (by decide) rfl (fun ls hl => ?_)
  refine lv_aload_n X.1 X.2.1 dL_law_1408 rfl (lv_at hl 5 rfl) ?_
  refine mr_go X hT hds (mr_runV X hT cb_RL_93 kw822 kw823 kw824 (m_thrown hfl hM) (mr_cell X hT (mw_or_l hM.1) rfl) rfl rfl hl.1 ⟨Nat.le_of_ble_eq_true rfl, Nat.le_of_ble_eq_true rfl⟩ (Nat.le_of_ble_eq_true rfl) dL_law_1409 ⟨by show cells + 1 + 0 + 0 ≤ 601024; omega, by show slots + 6 + 0 + 0 ≤ 7293034; omega⟩) (fun v Mt H locs hp hds hT => ?_)
  obtain ⟨r3, rfl, rfl, hM⟩ := hp
  refine W.eq (g2 := F0 m 1412 ls (.int _ :: _)) rfl ?_
  refine lv_iload X.1 X.2.1 dL_law_1412 (lv_at hl 1 rfl) ?_
  refine lv_icmp_eq X.1 X.2.1 (tgt := 1419) dL_law_1414 (by decide) (fun c1414 => ?_) (fun c1414 => absurd rfl c1414)
  refine lv_iload X.1 X.2.1 dL_law_1419 (lv_at hl 1 rfl) ?_
  refine lv_if_ne X.1 X.2.1 (tgt := 1436) dL_law_1421 (by decide) (fun c2 => ?_) (fun c2 => ?_)
  · skip
    refine lv_goto X.1 X.2.1 (tgt := 1495) dL_law_1436 (by decide) ?_
    refine nx _ _ _ _ _ ?_
    exact ⟨b1, _, w1, _, Mx1, Mt, f1, e00, hA1, ho1, law_q (fun hc => st_same hq) hq, hM, hd1, mw_ds_comm hds, by rw [mw_or_comm hds] at hT; exact hT, lv_sub hl [2, 3, 4, 5, 6] rfl, by show cells + 1 + 0 + 0 ≤ 100 + 20 * (k + 1); omega, by show slots + 6 + 0 + 0 ≤ 100000 + 3000 * (k + 1); omega⟩
  · skip
    refine lv_aload_n X.1 X.2.1 dL_law_1424 rfl (lv_at hl 6 rfl) ?_
    refine lv_iconst X.1 X.2.1 (v := 0) dL_law_1425 (by decide) ?_
    refine mr_lald X hT (law_o hds hd1) (vp_in_nI (n := 0) (show 0 < 1 by decide) (by decide)) dL_law_1426 ?_
    refine lv_iload X.1 X.2.1 dL_law_1427 (lv_at hl 0 rfl) ?_
    refine lv_i2l X.1 X.2.1 dL_law_1429 rfl ?_
    refine W.lcmp X.1 X.2.1 dL_law_1430 ?_
    refine lv_if_eq X.1 X.2.1 (tgt := 1436) dL_law_1431 (by decide) (fun c3 => ?_) (fun c3 => absurd (law_cmp ((congrArg f1 law_0).trans (by rw [han c2, hans c2]))) c3)
    refine lv_goto X.1 X.2.1 (tgt := 1495) dL_law_1436 (by decide) ?_
    refine nx _ _ _ _ _ ?_
    exact ⟨b1, _, w1, _, Mx1, Mt, f1, e00, hA1, ho1, law_q (fun hc => st_same hq) hq, hM, hd1, mw_ds_comm hds, by rw [mw_or_comm hds] at hT; exact hT, lv_sub hl [2, 3, 4, 5, 6] rfl, by show cells + 1 + 0 + 0 ≤ 100 + 20 * (k + 1); omega, by show slots + 6 + 0 + 0 ≤ 100000 + 3000 * (k + 1); omega⟩

set_option maxHeartbeats 4000000 in
set_option maxRecDepth 100000 in
theorem law_c22 {p : Program} {l : Launch} {e : Env} {s : State} {m : MethodId} {below : List Frame} {meth : Method} {c : Code} {G : mw_G} (hfl : l.stackTraces = false) (X : mw_B p l s m meth c code 7 RL G (fun q => s.heap.size ≤ q)) (hN : mw_N s) {b0 L : Nat} {xs : Nat → Int32} (hX : va_X b0 L xs s s.heap) (hbl : b0 < s.heap.size) {gx hm o : Nat} {ad : Nat → Nat} {k : Nat} {H : Heap} {locs : List Loc} {ls : Array Slot} {cells slots : Nat} (hk : k ≤ 511) (hkL : 4 * k + 4 ≤ L) (hL : L ≤ 2048) (hI : law_I G s b0 gx hm o ad k (4 * k) H locs ls cells slots) (nx : ∀ (H : Heap) (locs : List Loc) (ls : Array Slot) (cells slots : Nat), law_I G s b0 gx hm o ad (k + 1) (4 * k) H locs ls cells slots → W p l e room_1 s m #[Value.ref b0] below meth c H locs cells slots (lw_Z below #[Value.ref b0] s) (F0 m 1495 ls [])) : W p l e room_1 s m #[Value.ref b0] below meth c H locs cells slots (lw_Z below #[Value.ref b0] s) (F0 m 1439 ls []) := by
  obtain ⟨b, x, w, lst, Mx, Mt, f, rfl, hA, ho, hq, hM, hd, hds, hT, hl, hce, hsl⟩ := hI
  have hbA : ¬ (fun q => s.heap.size ≤ q) b0 := Nat.not_le.mpr hbl
  have hi := q_inv_mono hq.1 hk
  refine lv_aload_n X.1 X.2.1 dL_law_1439 rfl (lv_at hl 2 rfl) ?_
  refine lv_aload_n X.1 X.2.1 dL_law_1440 rfl (lv_at hl 1 rfl) ?_
  refine lv_iload X.1 X.2.1 dL_law_1441 (lv_at hl 0 rfl) ?_
  refine lv_iconst X.1 X.2.1 (v := 1) dL_law_1443 (by decide) ?_
  refine lv_iadd X.1 X.2.1 dL_law_1444 ?_
  refine mm_top (w := nI (4 * k + 1)) (nI_add _ 1) ?_
  refine va_sld X.1 X.2.1 hX hbl hbA hT.2.2 (vp_in_nI (n := 4 * k + 1) (by omega) (by omega)) dL_law_1445 ?_
  refine mm_top (w := xs (4 * k + 1)) (by rw [nI_clamp (by omega)]) ?_
  refine lv_aload_n X.1 X.2.1 dL_law_1446 rfl (lv_at hl 4 rfl) ?_
  refine mr_goX X hT hds (mr_runSN X hN hT cb_RL_167 kw705 kw706 (l_seal hfl hA ho hi hd) rfl rfl hl.1 ⟨Nat.le_of_ble_eq_true rfl, Nat.le_of_ble_eq_true rfl⟩ (Nat.le_of_ble_eq_true rfl) dL_law_1447 ⟨by show cells + 1 ≤ 601024; omega, by show slots + 6 ≤ 7293034; omega⟩) (fun E ce9 q9 H locs hp hT h1 h2 h3 => absurd hp id) (fun v M1 H locs hp hds hT => ?_)
  obtain ⟨r, rfl, Mx1, f1, rfl, rfl, hd1, ⟨b1, e00, w1, hA1, ho1⟩, han⟩ := hp
  refine W.eq (g2 := F0 m 1450 ls (.int _ :: _)) rfl ?_
  rw [mw_or_comm hds] at hT
  have hds := mw_ds_comm hds
  refine lv_istore X.1 X.2.1 dL_law_1450 hl (by decide) rfl (fun ls hl => ?_)
  refine lv_aload_n X.1 X.2.1 dL_law_1452 rfl (lv_at hl 4 rfl) ?_
  refine lv_aload_n X.1 X.2.1 dL_law_1453 rfl (lv_at hl 2 rfl) ?_
  refine lv_iload X.1 X.2.1 dL_law_1454 (lv_at hl 1 rfl) ?_
  refine lv_iconst X.1 X.2.1 (v := 1) dL_law_1456 (by decide) ?_
  refine lv_iadd X.1 X.2.1 dL_law_1457 ?_
  refine mm_top (w := nI (4 * k + 1)) (nI_add _ 1) ?_
  refine va_sld X.1 X.2.1 hX hbl hbA hT.2.2 (vp_in_nI (n := 4 * k + 1) (by omega) (by omega)) dL_law_1458 ?_
  refine mm_top (w := xs (4 * k + 1)) (by rw [nI_clamp (by omega)]) ?_
  refine mr_go X hT hds (mr_runV X hT cb_RL_169 kw991 kw992 kw993 (m_seal hfl hM hi) (mr_cell X hT (mw_or_l hM.1) rfl) rfl rfl hl.1 ⟨Nat.le_of_ble_eq_true rfl, Nat.le_of_ble_eq_true rfl⟩ (Nat.le_of_ble_eq_true rfl) dL_law_1459 ⟨by show cells + 1 + 0 ≤ 601024; omega, by show slots + 6 + 0 ≤ 7293034; omega⟩) (fun v Mt H locs hp hds hT => ?_)
  obtain ⟨r2, rfl, hans, hM⟩ := hp
  refine W.eq (g2 := F0 m 1462 ls (.int _ :: _)) rfl ?_
  refine lv_istore X.1 X.2.1 dL_law_1462 hl (by decide) rfl (fun ls hl => ?_)
  refine lv_aload_n X.1 X.2.1 dL_law_1464 rfl (lv_at hl 5 rfl) ?_
  refine mr_go X hT hds (mr_runV X hT cb_RL_93 kw822 kw823 kw824 (m_thrown hfl hM) (mr_cell X hT (mw_or_l hM.1) rfl) rfl rfl hl.1 ⟨Nat.le_of_ble_eq_true rfl, Nat.le_of_ble_eq_true rfl⟩ (Nat.le_of_ble_eq_true rfl) dL_law_1465 ⟨by show cells + 1 + 0 + 0 ≤ 601024; omega, by show slots + 6 + 0 + 0 ≤ 7293034; omega⟩) (fun v Mt H locs hp hds hT => ?_)
  obtain ⟨r3, rfl, rfl, hM⟩ := hp
  refine W.eq (g2 := F0 m 1468 ls (.int _ :: _)) rfl ?_
  refine lv_iload X.1 X.2.1 dL_law_1468 (lv_at hl 1 rfl) ?_
  refine lv_icmp_eq X.1 X.2.1 (tgt := 1475) dL_law_1470 (by decide) (fun c1470 => ?_) (fun c1470 => absurd rfl c1470)
  refine lv_iload X.1 X.2.1 dL_law_1475 (lv_at hl 1 rfl) ?_
  refine lv_if_ne X.1 X.2.1 (tgt := 1492) dL_law_1477 (by decide) (fun c2 => ?_) (fun c2 => ?_)
  · skip
    refine lv_goto X.1 X.2.1 (tgt := 1495) dL_law_1492 (by decide) ?_
    refine nx _ _ _ _ _ ?_
    exact ⟨b1, _, w1, _, Mx1, Mt, f1, e00, hA1, ho1, law_q (fun hc => st_same hq) hq, hM, hd1, mw_ds_comm hds, by rw [mw_or_comm hds] at hT; exact hT, lv_sub hl [2, 3, 4, 5, 6] rfl, by show cells + 1 + 0 + 0 ≤ 100 + 20 * (k + 1); omega, by show slots + 6 + 0 + 0 ≤ 100000 + 3000 * (k + 1); omega⟩
  · skip
    refine lv_aload_n X.1 X.2.1 dL_law_1480 rfl (lv_at hl 6 rfl) ?_
    refine lv_iconst X.1 X.2.1 (v := 0) dL_law_1481 (by decide) ?_
    refine mr_lald X hT (law_o hds hd1) (vp_in_nI (n := 0) (show 0 < 1 by decide) (by decide)) dL_law_1482 ?_
    refine lv_iload X.1 X.2.1 dL_law_1483 (lv_at hl 0 rfl) ?_
    refine lv_i2l X.1 X.2.1 dL_law_1485 rfl ?_
    refine W.lcmp X.1 X.2.1 dL_law_1486 ?_
    refine lv_if_eq X.1 X.2.1 (tgt := 1492) dL_law_1487 (by decide) (fun c3 => ?_) (fun c3 => absurd (law_cmp ((congrArg f1 law_0).trans (by rw [han c2, hans c2]))) c3)
    refine lv_goto X.1 X.2.1 (tgt := 1495) dL_law_1492 (by decide) ?_
    refine nx _ _ _ _ _ ?_
    exact ⟨b1, _, w1, _, Mx1, Mt, f1, e00, hA1, ho1, law_q (fun hc => st_same hq) hq, hM, hd1, mw_ds_comm hds, by rw [mw_or_comm hds] at hT; exact hT, lv_sub hl [2, 3, 4, 5, 6] rfl, by show cells + 1 + 0 + 0 ≤ 100 + 20 * (k + 1); omega, by show slots + 6 + 0 + 0 ≤ 100000 + 3000 * (k + 1); omega⟩

