theorem lv_room16 {m : MethodId} {pc : Nat} {ls : Array Slot} {rest st : List Value} (h : (st.map fun v => v.category).sum ≤ 16) : 2 * (F0 m pc ls rest).monitorRoom + (st.map fun v => v.category).sum ≤ 16 := by
  have h0 := lv_room (m := m) (pc := pc) (ls := ls) (rest := rest) (st := []) (Nat.zero_le _)
  have e0 : (F0 m pc ls rest).monitorRoom = 0 := rfl
  rw [e0]
  omega
section M16
variable {p : Program} {l : Launch} {e : Env} {R : Room} {s : State} {m : MethodId} {args : Array Value} {below : List Frame} {meth : Method} {c : Code} {H : Heap} {locs : List Loc} {cells slots : Nat} {Q : State → Prop}
variable {cc : ByteArray} {pc maxL : Nat} {own : String} {ls : Array Slot} {rest st0 : List Value} {A : Nat → Prop} {G : mw_G} {M Mc Mr : mw_M}
variable {y : MethodName} {bytes : ByteArray} {maxL2 index n : Nat} {ret : Option FieldType} {rm : Room} {post : Option Value → mw_M → Prop} {As : List Value}
/-- a call over a high stack -/
theorem mr_runSK16 {ex : State → Prop} (X : mw_B p l s m meth c cc maxL own G A) (hT : mw_T G A s (mw_or Mc Mr) H locs) (hx : ex_ok ex) (hex : ∀ U : State, U.heap = H → s.WarmedH U.vm → ex U) (cb : mw_CB own index y n) (hi : Cond.static y ∈ lw_tbl) (hcode : Cond.code y bytes maxL2 ret ∈ lw_tbl) (hM : mw_MetK ex l G y (.code y bytes maxL2 ret) rm As Mc post) (hst : st0 = As.reverse ++ rest) (hn : As.length = n) (hsize : ls.size = maxL) (hR : rm.frames + 1 ≤ R.frames ∧ 16 + (maxL2 + 11) + rm.locals ≤ R.locals) (hW : (rest.map fun v => v.category).sum ≤ 16) (hdg : decode cc pc = .ok (.invokestatic index, 3)) (hf : cells + rm.cells ≤ R.cells ∧ slots + rm.slots ≤ R.slots) :
    mw_Run p l e R s m args below meth c G Mc H locs cells slots rm (F0 m pc ls st0) rest post := by
  have hWW := X.2.2.2.2.1.1
  have hc : (Cond.code y bytes maxL2 ret).before args s = true := mw_use hWW hcode rfl
  have hK : Back l R p e below s args y 3 16 (PreOf R rm.cells rm.slots (mw_PreK ex G As Mc H.size)) (PostOf (mw_Qr G Mc H.size post) rm.cells rm.slots (mw_A Mc H.size)) :=
    back_of (bytes := bytes) (maxL := maxL2) (ret := ret) (hM H.size) (mw_PreK.blind hx) rfl rfl hR.1 hR.2 (fun w hw a' U hU => by
      rcases List.mem_singleton.mp hw with rfl
      exact word_at hU (Or.inl rfl) hc) List.mem_cons_self (fun a' U hW => word_at hW (Or.inl (by first | rfl | simp [Cond.onTables, Cond.keeps, Cond.steady])) (mw_use (A := args) hWW cb.1 rfl))
  refine ⟨As.toArray, fun T hT0 X0 => ?_⟩
  obtain ⟨v, vm₁, ⟨U', l2, c2, s2⟩, hW₁, X', ⟨g', mk, t, L, e1, e2, hq, h1, hL, h2, h3⟩, st⟩ := callS X0 X.1 (bytes := bytes) (maxL := maxL2) (ret := ret) X.2.2.2.1 (mw_use hWW cb.2.2.2 rfl) (mw_use hWW hi rfl) (mw_use hWW cb.1 rfl) hc cb.2.1 hK (g := F0 m pc ls st0) rfl (hsize.trans X.2.2.1.symm) (argsL := As) (rest := rest) (fun sig h => hn.trans (by
    have h2 := cb.2.2.1
    rw [h] at h2
    exact (Option.some.inj h2).symm)) hst (lv_room16 hW) (by rw [X.2.1]; exact hdg) (fun vm₁ hW₁ => ⟨hf.1, hf.2, mr_pre (av := As) X hT (T.setVm vm₁) hT0 hW₁, hex (T.setVm vm₁) hT0 hW₁⟩)
  dsimp only [Pt.U, Pt.locs, Pt.cells, Pt.slots] at X' e1 e2 h1 h2 h3 st
  subst h1; subst h2; subst h3
  exact ⟨v, (T.setVm vm₁).calling g' mk As.toArray, t, U', L, hT0, X', hL, e1, e2, hq, st⟩
end M16
theorem l_none {G : mw_G} {A : Nat → Prop} {s : State} {M : mw_M} {H : Heap} {locs : List Loc} {b : Nat} (hT : mw_T G A s M H locs) (h : ¬ A b) : M b = none := Classical.byContradiction (fun z => h (hT.2.1 b z))
abbrev rm_L_holds : Room := { frames := 11, cells := 8238, slots := 320395, locals := 345 }
set_option maxHeartbeats 4000000 in
set_option maxRecDepth 100000 in
theorem k_holds {l : Launch} (hfl : l.stackTraces = false) {G : mw_G} {b0 L : Nat} {xs : Nat → Int32} (hL : L ≤ 260) : mw_MetK (ex_S b0 L xs) l G yL_holds (.code yL_holds cL_holds 11 (some .boolean)) rm_L_holds [.ref b0] mw_nil (mw_pi (fun r M1 => r = 1)) := by
  refine mw_ofK hfl (by decide) (Nat.le_of_ble_eq_true rfl) ?_
  intro zp ze zs_ zm zb zh zc ls X hin hret hex hT hl
  have hl : lv_has ls 11 [(0, .ref b0)] := hl
  have hX0 := hex.2
  have hbl : b0 < zs_.heap.size := by obtain ⟨scr, hs, -⟩ := hX0; exact (Array.getElem?_eq_some_iff.mp hs).1
  have hbA : ¬ mw_A mw_nil zs_.heap.size b0 := fun h => h.elim (fun h => h rfl) (fun h => absurd hbl (Nat.not_lt.mpr h))
  refine mr_new X hT (ci := 8) rfl uin_8 tyX7 tyX7_ok kw33 kw34 kw1 (fs := [.null, .null, .null, .null, .null, .null, .null, .int 0, .int 0]) (fun j hj => by have hj : j < 9 := hj; rcases (show j = 0 ∨ j = 1 ∨ j = 2 ∨ j = 3 ∨ j = 4 ∨ j = 5 ∨ j = 6 ∨ j = 7 ∨ j = 8 by omega) with rfl | rfl | rfl | rfl | rfl | rfl | rfl | rfl | rfl <;> rfl) (Nat.le_of_ble_eq_true rfl) (Nat.le_of_ble_eq_true rfl) dL_holds_0 (fun o H hoN hT => ?_)
  refine lv_dup X.1 X.2.1 dL_holds_3 rfl ?_
  refine mr_g X hT (fun hT' => mr_runI X hT' cb_RL_164 kw36 rfl kw37 (k_gate hfl (va_up_self _ _ _)) rfl rfl hl.1 ⟨Nat.le_of_ble_eq_true rfl, Nat.le_of_ble_eq_true rfl⟩ (Nat.le_of_ble_eq_true rfl) dL_holds_4 ⟨Nat.le_of_ble_eq_true rfl, Nat.le_of_ble_eq_true rfl⟩) (fun v Mx H locs hp hT => ?_)
  obtain ⟨rfl, b1, w1, e00, hA, ho⟩ := hp
  refine W.eq (g2 := F0 zm 7 ls _) rfl ?_
  refine lv_astore_n X.1 X.2.1 dL_holds_7 rfl hl (by decide) rfl (fun ls hl => ?_)
  have hP0 := PWd.zero (fun _ => 0) hA ho
  refine lv_bipush X.1 X.2.1 (v := 10) dL_holds_8 (by decide) ?_
  refine mr_newa X hT (atype := .int) (k := 0) (N := 10) (x := .inl (fun _ => 0)) rfl kw89 (fun cA => rfl) (nI_pos (n := 10) (by decide)) (nI_clamp (n := 10) (by decide)) (Nat.le_of_ble_eq_true rfl) (Nat.le_of_ble_eq_true rfl) (Nat.le_of_ble_eq_true rfl) dL_holds_10 (fun a0 H ha0 hT => ?_)
  have hP1 := hP0.step ha0
  refine lv_astore_n X.1 X.2.1 dL_holds_12 rfl hl (by decide) rfl (fun ls hl => ?_)
  refine lv_iconst X.1 X.2.1 (v := 3) dL_holds_13 (by decide) ?_
  refine mr_newa X hT (atype := .int) (k := 0) (N := 3) (x := .inl (fun _ => 0)) rfl kw89 (fun cA => rfl) (nI_pos (n := 3) (by decide)) (nI_clamp (n := 3) (by decide)) (Nat.le_of_ble_eq_true rfl) (Nat.le_of_ble_eq_true rfl) (Nat.le_of_ble_eq_true rfl) dL_holds_14 (fun a1 H ha1 hT => ?_)
  have hP2 := hP1.step ha1
  refine lv_astore_n X.1 X.2.1 dL_holds_16 rfl hl (by decide) rfl (fun ls hl => ?_)
  refine lv_bipush X.1 X.2.1 (v := 9) dL_holds_17 (by decide) ?_
  refine mr_newa X hT (atype := .int) (k := 0) (N := 9) (x := .inl (fun _ => 0)) rfl kw89 (fun cA => rfl) (nI_pos (n := 9) (by decide)) (nI_clamp (n := 9) (by decide)) (Nat.le_of_ble_eq_true rfl) (Nat.le_of_ble_eq_true rfl) (Nat.le_of_ble_eq_true rfl) dL_holds_19 (fun a2 H ha2 hT => ?_)
  have hP3 := hP2.step ha2
  refine lv_astore X.1 X.2.1 dL_holds_21 hl (by decide) rfl (fun ls hl => ?_)
  refine lv_bipush X.1 X.2.1 (v := 63) dL_holds_23 (by decide) ?_
  refine mr_newa X hT (atype := .int) (k := 0) (N := 63) (x := .inl (fun _ => 0)) rfl kw89 (fun cA => rfl) (nI_pos (n := 63) (by decide)) (nI_clamp (n := 63) (by decide)) (Nat.le_of_ble_eq_true rfl) (Nat.le_of_ble_eq_true rfl) (Nat.le_of_ble_eq_true rfl) dL_holds_25 (fun a3 H ha3 hT => ?_)
  have hP4 := hP3.step ha3
  refine lv_astore X.1 X.2.1 dL_holds_27 hl (by decide) rfl (fun ls hl => ?_)
  refine lv_bipush X.1 X.2.1 (v := 60) dL_holds_29 (by decide) ?_
  refine mr_newa X hT (atype := .int) (k := 0) (N := 60) (x := .inl (fun _ => 0)) rfl kw89 (fun cA => rfl) (nI_pos (n := 60) (by decide)) (nI_clamp (n := 60) (by decide)) (Nat.le_of_ble_eq_true rfl) (Nat.le_of_ble_eq_true rfl) (Nat.le_of_ble_eq_true rfl) dL_holds_31 (fun a4 H ha4 hT => ?_)
  have hP5 := hP4.step ha4
  refine lv_astore X.1 X.2.1 dL_holds_33 hl (by decide) rfl (fun ls hl => ?_)
  refine lv_bipush X.1 X.2.1 (v := 60) dL_holds_35 (by decide) ?_
  refine mr_newa X hT (atype := .int) (k := 0) (N := 60) (x := .inl (fun _ => 0)) rfl kw89 (fun cA => rfl) (nI_pos (n := 60) (by decide)) (nI_clamp (n := 60) (by decide)) (Nat.le_of_ble_eq_true rfl) (Nat.le_of_ble_eq_true rfl) (Nat.le_of_ble_eq_true rfl) dL_holds_37 (fun a5 H ha5 hT => ?_)
  have hP6 := hP5.step ha5
  refine lv_astore X.1 X.2.1 dL_holds_39 hl (by decide) rfl (fun ls hl => ?_)
  refine lv_bipush X.1 X.2.1 (v := 60) dL_holds_41 (by decide) ?_
  refine mr_newa X hT (atype := .int) (k := 0) (N := 60) (x := .inl (fun _ => 0)) rfl kw89 (fun cA => rfl) (nI_pos (n := 60) (by decide)) (nI_clamp (n := 60) (by decide)) (Nat.le_of_ble_eq_true rfl) (Nat.le_of_ble_eq_true rfl) (Nat.le_of_ble_eq_true rfl) dL_holds_43 (fun a6 H ha6 hT => ?_)
  have hP7 := hP6.step ha6
  refine lv_astore X.1 X.2.1 dL_holds_45 hl (by decide) rfl (fun ls hl => ?_)
  have hM := hP7.done
  rw [e00] at hM
  obtain ⟨ad, ead⟩ : ∃ ad : Nat → Nat, ad = (va_up (va_up (va_up (va_up (va_up (va_up (va_up (fun _ => 0) 0 a0) 1 a1) 2 a2) 3 a3) 4 a4) 5 a5) 6 a6) := ⟨_, rfl⟩
  rw [← ead] at hM
  have e0 : a0 = ad 0 := by rw [ead]; rfl
  have e1 : a1 = ad 1 := by rw [ead]; rfl
  have e2 : a2 = ad 2 := by rw [ead]; rfl
  have e3 : a3 = ad 3 := by rw [ead]; rfl
  have e4 : a4 = ad 4 := by rw [ead]; rfl
  have e5 : a5 = ad 5 := by rw [ead]; rfl
  have e6 : a6 = ad 6 := by rw [ead]; rfl
  have hl : lv_has ls 11 [(8, .ref (ad 6)), (7, .ref (ad 5)), (6, .ref (ad 4)), (5, .ref (ad 3)), (4, .ref (ad 2)), (3, .ref (ad 1)), (2, .ref (ad 0)), (1, .ref o), (0, .ref b0)] := by rw [← e0, ← e1, ← e2, ← e3, ← e4, ← e5, ← e6]; exact hl
  clear hP0 hP1 hP2 hP3 hP4 hP5 hP6 hP7 e0 e1 e2 e3 e4 e5 e6 ead
  refine lv_iconst X.1 X.2.1 (v := 1) dL_holds_47 (by decide) ?_
  refine lv_istore X.1 X.2.1 dL_holds_48 hl (by decide) rfl (fun ls hl => ?_)
  refine lv_aload X.1 X.2.1 dL_holds_50 (lv_at hl 5 rfl) ?_
  refine lv_bipush X.1 X.2.1 (v := 8) dL_holds_52 (by decide) ?_
  refine lv_iconst X.1 X.2.1 (v := 1) dL_holds_54 (by decide) ?_
  refine ml_ast X hT hM (k := 2) (j := 8) (by decide) (by decide) dL_holds_55 (fun M1 H locs hM hT => ?_)
  refine lv_iconst X.1 X.2.1 (v := 0) dL_holds_56 (by decide) ?_
  refine lv_istore X.1 X.2.1 dL_holds_57 hl (by decide) rfl (fun ls hl => ?_)
  refine W.widen (k := (fun (k : Nat) => 17 + 7 * k) 0) (n := (fun (k : Nat) => 2344 + 1333 * k) 0) (show ((0 + 1 + 9 + 1 + 1 + 1 + 1 + 1 + 1 + 1) : Nat) ≤ 17 + 7 * 0 by omega) (show ((0 + 9 + 2070 + 10 + 3 + 9 + 63 + 60 + 60 + 60) : Nat) ≤ 2344 + 1333 * 0 by omega) ?_
  refine mw_loopC (nL := 11) (n := 5) (fun k M1 => ∃ (x : s_T) (z : Nat → Nat → Int32), ST k 0 x z ∧ q_ok (3 * k) x ∧ LW G o ad x z M1) (fun k => [(10, .int (nI k)), (9, .int 1), (8, .ref (ad 6)), (7, .ref (ad 5)), (6, .ref (ad 4)), (5, .ref (ad 3)), (4, .ref (ad 2)), (3, .ref (ad 1)), (2, .ref (ad 0)), (1, .ref o), (0, .ref b0)]) (fun (k : Nat) => 17 + 7 * k) (fun (k : Nat) => 2344 + 1333 * k) (fun k hk ih59 M1 H locs ls hM hT hl => ?_) ⟨_, _, ST_0, q_ok_0, hM⟩ hT (lv_sub hl [0, 1, 2, 3, 4, 5, 6, 7, 8, 9, 10] rfl)
  obtain ⟨x, z, hS, hq, hM⟩ := hM
  refine lv_iload X.1 X.2.1 dL_holds_59 (lv_at hl 0 rfl) ?_
  refine lv_iconst X.1 X.2.1 (v := 5) dL_holds_61 (by decide) ?_
  refine lv_icmp_ge X.1 X.2.1 (tgt := 169) dL_holds_62 (by decide) (fun c62 => ?_) (fun c62 => ?_)
  · skip
    have hkn := mm_exit hk (show 5 < 2 ^ 31 by omega) c62
    subst hkn
    refine W.widen (k := 52) (n := 9009) (show ((17 + 7 * (5)) : Nat) ≤ 52 by omega) (show ((2344 + 1333 * (5)) : Nat) ≤ 9009 by omega) ?_
    refine lv_iconst X.1 X.2.1 (v := 0) dL_holds_169 (by decide) ?_
    refine lv_istore X.1 X.2.1 dL_holds_170 hl (by decide) rfl (fun ls hl => ?_)
    refine W.widen (k := (fun (k : Nat) => 52 + 4 * k) 0) (n := (fun (k : Nat) => 9009 + 1314 * k) 0) (show ((52) : Nat) ≤ 52 + 4 * 0 by omega) (show ((9009) : Nat) ≤ 9009 + 1314 * 0 by omega) ?_
    refine mw_loopC (nL := 11) (n := 3) (fun k M1 => ∃ (x : s_T) (z : Nat → Nat → Int32), ST 5 k x z ∧ q_ok (15 + k) x ∧ LW G o ad x z M1) (fun k => [(10, .int (nI k)), (9, .int 1), (8, .ref (ad 6)), (7, .ref (ad 5)), (6, .ref (ad 4)), (5, .ref (ad 3)), (4, .ref (ad 2)), (3, .ref (ad 1)), (2, .ref (ad 0)), (1, .ref o), (0, .ref b0)]) (fun (k : Nat) => 52 + 4 * k) (fun (k : Nat) => 9009 + 1314 * k) (fun k hk ih172 M1 H locs ls hM hT hl => ?_) ⟨x, z, hS, hq, hM⟩ hT (lv_sub hl [0, 1, 2, 3, 4, 5, 6, 7, 8, 9, 10] rfl)
    obtain ⟨x, z, hS, hq, hM⟩ := hM
    refine lv_iload X.1 X.2.1 dL_holds_172 (lv_at hl 0 rfl) ?_
    refine lv_iconst X.1 X.2.1 (v := 3) dL_holds_174 (by decide) ?_
    refine lv_icmp_ge X.1 X.2.1 (tgt := 217) dL_holds_175 (by decide) (fun c175 => ?_) (fun c175 => ?_)
    · skip
      have hkn := mm_exit hk (show 3 < 2 ^ 31 by omega) c175
      subst hkn
      refine W.widen (k := 64) (n := 12951) (show ((52 + 4 * (3)) : Nat) ≤ 64 by omega) (show ((9009 + 1314 * (3)) : Nat) ≤ 12951 by omega) ?_
      refine lv_aload X.1 X.2.1 dL_holds_217 (lv_at hl 6 rfl) ?_
      refine lv_iconst X.1 X.2.1 (v := 0) dL_holds_219 (by decide) ?_
      refine lv_iconst X.1 X.2.1 (v := 5) dL_holds_220 (by decide) ?_
      refine ml_ast X hT hM (k := 2) (j := 0) (by decide) (by decide) dL_holds_221 (fun M1 H locs hM hT => ?_)
      refine lv_aload X.1 X.2.1 dL_holds_222 (lv_at hl 6 rfl) ?_
      refine lv_iconst X.1 X.2.1 (v := 1) dL_holds_224 (by decide) ?_
      refine lv_iconst X.1 X.2.1 (v := 3) dL_holds_225 (by decide) ?_
      refine ml_ast X hT hM (k := 2) (j := 1) (by decide) (by decide) dL_holds_226 (fun M1 H locs hM hT => ?_)
      refine lv_iconst X.1 X.2.1 (v := 0) dL_holds_227 (by decide) ?_
      refine lv_istore X.1 X.2.1 dL_holds_228 hl (by decide) rfl (fun ls hl => ?_)
      refine W.widen (k := (fun (k : Nat) => 64 + 81 * k) 0) (n := (fun (k : Nat) => 12951 + 3070 * k) 0) (show ((64) : Nat) ≤ 64 + 81 * 0 by omega) (show ((12951) : Nat) ≤ 12951 + 3070 * 0 by omega) ?_
      refine mw_loopC (nL := 11) (n := 100) (fun k M1 => ∃ (x : s_T) (z : Nat → Nat → Int32) (T : Nat), LSt (18 + k) T x z ∧ T ≤ 92000 + 40 * k ∧ LW G o ad x z M1) (fun k => [(10, .int (nI k)), (9, .int 1), (8, .ref (ad 6)), (7, .ref (ad 5)), (6, .ref (ad 4)), (5, .ref (ad 3)), (4, .ref (ad 2)), (3, .ref (ad 1)), (2, .ref (ad 0)), (1, .ref o), (0, .ref b0)]) (fun (k : Nat) => 64 + 81 * k) (fun (k : Nat) => 12951 + 3070 * k) (fun k hk ih230 M1 H locs ls hM hT hl => ?_) ⟨_, _, 0, ST.done hS hq, by omega, hM⟩ hT (lv_sub hl [0, 1, 2, 3, 4, 5, 6, 7, 8, 9, 10] rfl)
      obtain ⟨x, z, T, hS, hTk, hM⟩ := hM
      refine lv_iload X.1 X.2.1 dL_holds_230 (lv_at hl 0 rfl) ?_
      refine lv_bipush X.1 X.2.1 (v := 100) dL_holds_232 (by decide) ?_
      refine lv_icmp_ge X.1 X.2.1 (tgt := 337) dL_holds_234 (by decide) (fun c234 => ?_) (fun c234 => ?_)
      · skip
        have hkn := mm_exit hk (show 100 < 2 ^ 31 by omega) c234
        subst hkn
        refine W.widen (k := 8164) (n := 319951) (show ((64 + 81 * (100)) : Nat) ≤ 8164 by omega) (show ((12951 + 3070 * (100)) : Nat) ≤ 319951 by omega) ?_
        refine lv_iload X.1 X.2.1 dL_holds_337 (lv_at hl 1 rfl) ?_
        refine lv_if_eq X.1 X.2.1 (tgt := 364) dL_holds_339 (by decide) (fun c339 => absurd c339 (by decide)) (fun _ => ?_)
        refine lv_aload_n X.1 X.2.1 dL_holds_342 rfl (lv_at hl 9 rfl) ?_
        refine lv_aload X.1 X.2.1 dL_holds_343 (lv_at hl 6 rfl) ?_
        refine lv_aload X.1 X.2.1 dL_holds_345 (lv_at hl 5 rfl) ?_
        refine lv_aload X.1 X.2.1 dL_holds_347 (lv_at hl 4 rfl) ?_
        refine lv_aload X.1 X.2.1 dL_holds_349 (lv_at hl 3 rfl) ?_
        refine lv_aload X.1 X.2.1 dL_holds_351 (lv_at hl 2 rfl) ?_
        refine lv_iconst X.1 X.2.1 (v := 0) dL_holds_353 (by decide) ?_
        refine mr_g X hT (fun hT' => mr_runS X hT' cb_RL_181 kw704 kw705 (As := [.ref o, .ref (ad 2), .ref (ad 3), .ref (ad 4), .ref (ad 5), .ref (ad 6), .int 0]) (k_isTold hfl hM hS.1 hS.2.1 (q_inv_mono hS.2.2.1.1 (by omega)) (zz := 0) (by omega) (by have := hS.2.2.2.1; omega)) rfl rfl hl.1 ⟨Nat.le_of_ble_eq_true rfl, Nat.le_of_ble_eq_true rfl⟩ (Nat.le_of_ble_eq_true rfl) dL_holds_354 ⟨Nat.le_of_ble_eq_true rfl, Nat.le_of_ble_eq_true rfl⟩) (fun v M1 H locs hp hT => ?_)
        obtain ⟨r, rfl, rfl, hM⟩ := hp
        refine W.eq (g2 := F0 zm 357 ls (.int 1 :: _)) rfl ?_
        refine lv_if_eq X.1 X.2.1 (tgt := 364) dL_holds_357 (by decide) (fun c357 => absurd c357 (by decide)) (fun _ => ?_)
        refine lv_iconst X.1 X.2.1 (v := 1) dL_holds_360 (by decide) ?_
        refine lv_goto X.1 X.2.1 (tgt := 365) dL_holds_361 (by decide) ?_
        exact mr_zret X hT hret (by first | rfl | decide | exact bI_nar _) (⟨_, rfl, rfl⟩) (Nat.le_of_ble_eq_true rfl) (Nat.le_of_ble_eq_true rfl) dL_holds_365
      · skip
        have hkl := mm_stay hk (show 100 < 2 ^ 31 by omega) c234
        refine lv_iload X.1 X.2.1 dL_holds_237 (lv_at hl 1 rfl) ?_
        refine lv_if_eq X.1 X.2.1 (tgt := 337) dL_holds_239 (by decide) (fun c239 => absurd c239 (by decide)) (fun _ => ?_)
        refine lv_aload_n X.1 X.2.1 dL_holds_242 rfl (lv_at hl 9 rfl) ?_
        refine lv_aload_n X.1 X.2.1 dL_holds_243 rfl (lv_at hl 8 rfl) ?_
        refine lv_aload_n X.1 X.2.1 dL_holds_244 rfl (lv_at hl 7 rfl) ?_
        refine lv_aload X.1 X.2.1 dL_holds_245 (lv_at hl 6 rfl) ?_
        refine lv_aload X.1 X.2.1 dL_holds_247 (lv_at hl 5 rfl) ?_
        refine lv_aload X.1 X.2.1 dL_holds_249 (lv_at hl 4 rfl) ?_
        refine lv_aload X.1 X.2.1 dL_holds_251 (lv_at hl 3 rfl) ?_
        refine lv_aload X.1 X.2.1 dL_holds_253 (lv_at hl 2 rfl) ?_
        refine lv_aload_n X.1 X.2.1 dL_holds_255 rfl (lv_at hl 10 rfl) ?_
        refine lv_bipush X.1 X.2.1 (v := 10) dL_holds_256 (by decide) ?_
        refine lv_iconst X.1 X.2.1 (v := 2) dL_holds_258 (by decide) ?_
        refine lv_iload X.1 X.2.1 dL_holds_259 (lv_at hl 0 rfl) ?_
        refine lv_imul X.1 X.2.1 dL_holds_261 ?_
        refine mm_top (w := nI (2 * k)) (pk_mul 2 k) ?_
        refine lv_iadd X.1 X.2.1 dL_holds_262 ?_
        refine mm_top (w := nI (10 + 2 * k)) (nI_add 10 (2 * k)) ?_
        refine lv_bipush X.1 X.2.1 (v := 28) dL_holds_263 (by decide) ?_
        refine mr_g X hT (fun hT' => mr_runSK X hT' (ex_S_ok b0 L xs) (ex_S_at X hT hex hbA) cb_RL_165 kw119 kw120 (As := [.ref b0, .int (nI (10 + 2 * k)), .int 28]) (k_from hfl (k := 10 + 2 * k) (B := 28) (l_none hT hbA) (by decide) (by decide) (show 10 + 2 * k < 1000 by omega) hL) rfl rfl hl.1 ⟨Nat.le_of_ble_eq_true rfl, Nat.le_of_ble_eq_true rfl⟩ (Nat.le_of_ble_eq_true rfl) dL_holds_265 ⟨by show ((64 + 81 * k + 0) : Nat) ≤ 8238; omega, by show ((12951 + 3070 * k + 0) : Nat) ≤ 320395; omega⟩) (fun v M1 H locs hp hT => ?_)
        obtain ⟨r, rfl, wy, hwy, rfl, eM⟩ := hp
        subst eM
        refine W.eq (g2 := F0 zm 268 ls (.int (nI wy) :: _)) rfl ?_
        refine lv_aload_n X.1 X.2.1 dL_holds_268 rfl (lv_at hl 10 rfl) ?_
        refine lv_bipush X.1 X.2.1 (v := 11) dL_holds_269 (by decide) ?_
        refine lv_iconst X.1 X.2.1 (v := 2) dL_holds_271 (by decide) ?_
        refine lv_iload X.1 X.2.1 dL_holds_272 (lv_at hl 0 rfl) ?_
        refine lv_imul X.1 X.2.1 dL_holds_274 ?_
        refine mm_top (w := nI (2 * k)) (pk_mul 2 k) ?_
        refine lv_iadd X.1 X.2.1 dL_holds_275 ?_
        refine mm_top (w := nI (11 + 2 * k)) (nI_add 11 (2 * k)) ?_
        refine lv_ldc X.1 X.2.1 (v := 1000000) X.2.2.2.1 (mw_use X.2.2.2.2.1.1 kw402 rfl) dL_holds_276 ?_
        refine mr_g X hT (fun hT' => mr_runSK16 X hT' (ex_S_ok b0 L xs) (ex_S_at X hT hex hbA) cb_RL_165 kw119 kw120 (As := [.ref b0, .int (nI (11 + 2 * k)), .int 1000000]) (k_from hfl (k := 11 + 2 * k) (B := 1000000) (l_none hT hbA) (by decide) (by decide) (show 11 + 2 * k < 1000 by omega) hL) rfl rfl hl.1 ⟨Nat.le_of_ble_eq_true rfl, Nat.le_of_ble_eq_true rfl⟩ (Nat.le_of_ble_eq_true rfl) dL_holds_278 ⟨by show ((64 + 81 * k + 0 + 0) : Nat) ≤ 8238; omega, by show ((12951 + 3070 * k + 0 + 0) : Nat) ≤ 320395; omega⟩) (fun v M1 H locs hp hT => ?_)
        obtain ⟨r, rfl, zz, hzz, rfl, eM⟩ := hp
        subst eM
        refine W.eq (g2 := F0 zm 281 ls (.int (nI zz) :: _)) rfl ?_
        refine mr_g X hT (fun hT' => mr_runSK X hT' ex_N_ok (ex_N_at hex.1) cb_RL_176 kw404 kw405 (As := [.ref o, .ref (ad 0), .ref (ad 1), .ref (ad 2), .ref (ad 3), .ref (ad 4), .ref (ad 5), .ref (ad 6), .int (nI wy), .int (nI zz)]) (k_acts hfl hM hS (show 18 + k ≤ 499 by omega) hwy hzz (by omega)) rfl rfl hl.1 ⟨Nat.le_of_ble_eq_true rfl, Nat.le_of_ble_eq_true rfl⟩ (Nat.le_of_ble_eq_true rfl) dL_holds_281 ⟨by show ((64 + 81 * k + 0 + 0 + 7) : Nat) ≤ 8238; omega, by show ((12951 + 3070 * k + 0 + 0 + 2626) : Nat) ≤ 320395; omega⟩) (fun v M1 H locs hp hT => ?_)
        obtain ⟨r, rfl, rfl, x1, z1, T1, hS1, hT1, hM⟩ := hp
        refine W.eq (g2 := F0 zm 284 ls (.int 1 :: _)) rfl ?_
        refine lv_if_eq X.1 X.2.1 (tgt := 328) dL_holds_284 (by decide) (fun c284 => absurd c284 (by decide)) (fun _ => ?_)
        refine lv_iload X.1 X.2.1 dL_holds_287 (lv_at hl 0 rfl) ?_
        refine lv_iconst X.1 X.2.1 (v := 3) dL_holds_289 (by decide) ?_
        refine lv_irem X.1 X.2.1 dL_holds_290 (by decide) ?_
        refine mm_top (w := nI (k % 3)) (pk_rem (a := k) (d := 3) (by omega) (by omega) (by omega)) ?_
        refine lv_iconst X.1 X.2.1 (v := 2) dL_holds_291 (by decide) ?_
        refine lv_icmp_lt X.1 X.2.1 (tgt := 324) dL_holds_292 (by decide) (fun c292 => ?_) (fun c292 => ?_)
        · skip
          refine lv_iconst X.1 X.2.1 (v := 1) dL_holds_324 (by decide) ?_
          refine lv_goto X.1 X.2.1 (tgt := 329) dL_holds_325 (by decide) ?_
          refine lv_istore X.1 X.2.1 dL_holds_329 hl (by decide) rfl (fun ls hl => ?_)
          refine lv_iinc X.1 X.2.1 (k := 1) (v := nI (k + 1)) dL_holds_331 hl rfl (mm_inc (k)) (by decide) rfl (fun ls hl => ?_)
          refine lv_goto X.1 X.2.1 (tgt := 230) dL_holds_334 (by decide) ?_
          refine W.widen (k := 64 + 81 * (k + 1)) (n := 12951 + 3070 * (k + 1)) (show ((64 + 81 * k + 0 + 0 + 7) : Nat) ≤ 64 + 81 * (k + 1) by omega) (show ((12951 + 3070 * k + 0 + 0 + 2626) : Nat) ≤ 12951 + 3070 * (k + 1) by omega) ?_
          exact ih230 (by omega) _ _ _ _ (⟨_, _, T1, hS1, by omega, hM⟩) hT (lv_sub hl [0, 1, 2, 3, 4, 5, 6, 7, 8, 9, 10] rfl)
        · skip
          refine lv_aload_n X.1 X.2.1 dL_holds_295 rfl (lv_at hl 9 rfl) ?_
          refine lv_aload X.1 X.2.1 dL_holds_296 (lv_at hl 6 rfl) ?_
          refine lv_aload X.1 X.2.1 dL_holds_298 (lv_at hl 5 rfl) ?_
          refine lv_aload X.1 X.2.1 dL_holds_300 (lv_at hl 4 rfl) ?_
          refine lv_aload X.1 X.2.1 dL_holds_302 (lv_at hl 3 rfl) ?_
          refine lv_aload X.1 X.2.1 dL_holds_304 (lv_at hl 2 rfl) ?_
          refine lv_aload_n X.1 X.2.1 dL_holds_306 rfl (lv_at hl 10 rfl) ?_
          refine lv_sipush X.1 X.2.1 (v := 300) dL_holds_307 (by decide) ?_
          refine lv_iload X.1 X.2.1 dL_holds_310 (lv_at hl 0 rfl) ?_
          refine lv_iadd X.1 X.2.1 dL_holds_312 ?_
          refine mm_top (w := nI (300 + k)) (nI_add 300 k) ?_
          refine lv_ldc X.1 X.2.1 (v := 100000) X.2.2.2.1 (mw_use X.2.2.2.2.1.1 kw702 rfl) dL_holds_313 ?_
          refine mr_g X hT (fun hT' => mr_runSK X hT' (ex_S_ok b0 L xs) (ex_S_at X hT hex hbA) cb_RL_165 kw119 kw120 (As := [.ref b0, .int (nI (300 + k)), .int 100000]) (k_from hfl (k := 300 + k) (B := 100000) (l_none hT hbA) (by decide) (by decide) (show 300 + k < 1000 by omega) hL) rfl rfl hl.1 ⟨Nat.le_of_ble_eq_true rfl, Nat.le_of_ble_eq_true rfl⟩ (Nat.le_of_ble_eq_true rfl) dL_holds_315 ⟨by show ((64 + 81 * k + 0 + 0 + 7 + 0) : Nat) ≤ 8238; omega, by show ((12951 + 3070 * k + 0 + 0 + 2626 + 0) : Nat) ≤ 320395; omega⟩) (fun v M1 H locs hp hT => ?_)
          obtain ⟨r, rfl, z3, hz3, rfl, eM⟩ := hp
          subst eM
          refine W.eq (g2 := F0 zm 318 ls (.int (nI z3) :: _)) rfl ?_
          refine mr_g X hT (fun hT' => mr_runS X hT' cb_RL_181 kw704 kw705 (As := [.ref o, .ref (ad 2), .ref (ad 3), .ref (ad 4), .ref (ad 5), .ref (ad 6), .int (nI z3)]) (k_isTold hfl hM hS1.1 hS1.2.1 (q_inv_mono hS1.2.2.1.1 (by omega)) (zz := z3) (by omega) (by have := hS1.2.2.2.1; omega)) rfl rfl hl.1 ⟨Nat.le_of_ble_eq_true rfl, Nat.le_of_ble_eq_true rfl⟩ (Nat.le_of_ble_eq_true rfl) dL_holds_318 ⟨by show ((64 + 81 * k + 0 + 0 + 7 + 0 + 74) : Nat) ≤ 8238; omega, by show ((12951 + 3070 * k + 0 + 0 + 2626 + 0 + 444) : Nat) ≤ 320395; omega⟩) (fun v M1 H locs hp hT => ?_)
          obtain ⟨r, rfl, rfl, hM⟩ := hp
          refine W.eq (g2 := F0 zm 321 ls (.int 1 :: _)) rfl ?_
          refine lv_if_eq X.1 X.2.1 (tgt := 328) dL_holds_321 (by decide) (fun c321 => absurd c321 (by decide)) (fun _ => ?_)
          refine lv_iconst X.1 X.2.1 (v := 1) dL_holds_324 (by decide) ?_
          refine lv_goto X.1 X.2.1 (tgt := 329) dL_holds_325 (by decide) ?_
          refine lv_istore X.1 X.2.1 dL_holds_329 hl (by decide) rfl (fun ls hl => ?_)
          refine lv_iinc X.1 X.2.1 (k := 1) (v := nI (k + 1)) dL_holds_331 hl rfl (mm_inc (k)) (by decide) rfl (fun ls hl => ?_)
          refine lv_goto X.1 X.2.1 (tgt := 230) dL_holds_334 (by decide) ?_
          refine W.widen (k := 64 + 81 * (k + 1)) (n := 12951 + 3070 * (k + 1)) (show ((64 + 81 * k + 0 + 0 + 7 + 0 + 74) : Nat) ≤ 64 + 81 * (k + 1) by omega) (show ((12951 + 3070 * k + 0 + 0 + 2626 + 0 + 444) : Nat) ≤ 12951 + 3070 * (k + 1) by omega) ?_
          exact ih230 (by omega) _ _ _ _ (⟨_, _, T1, hS1, by omega, hM⟩) hT (lv_sub hl [0, 1, 2, 3, 4, 5, 6, 7, 8, 9, 10] rfl)
    · skip
      have hkl := mm_stay hk (show 3 < 2 ^ 31 by omega) c175
      refine lv_iload X.1 X.2.1 dL_holds_178 (lv_at hl 1 rfl) ?_
      refine lv_if_eq X.1 X.2.1 (tgt := 217) dL_holds_180 (by decide) (fun c180 => absurd c180 (by decide)) (fun _ => ?_)
      refine lv_aload_n X.1 X.2.1 dL_holds_183 rfl (lv_at hl 7 rfl) ?_
      refine lv_iload X.1 X.2.1 dL_holds_184 (lv_at hl 0 rfl) ?_
      refine lv_iload X.1 X.2.1 dL_holds_186 (lv_at hl 0 rfl) ?_
      refine lv_iconst X.1 X.2.1 (v := 2) dL_holds_188 (by decide) ?_
      refine lv_irem X.1 X.2.1 dL_holds_189 (by decide) ?_
      refine mm_top (w := nI (k % 2)) (pk_rem (a := k) (d := 2) (by omega) (by omega) (by omega)) ?_
      refine ml_ast X hT hM (k := 1) (j := k) (by decide) (show k < 3 by omega) dL_holds_190 (fun M1 H locs hM hT => ?_)
      refine lv_aload_n X.1 X.2.1 dL_holds_191 rfl (lv_at hl 9 rfl) ?_
      refine lv_iload X.1 X.2.1 dL_holds_192 (lv_at hl 0 rfl) ?_
      refine lv_iconst X.1 X.2.1 (v := 2) dL_holds_194 (by decide) ?_
      refine lv_irem X.1 X.2.1 dL_holds_195 (by decide) ?_
      refine mm_top (w := nI (k % 2)) (pk_rem (a := k) (d := 2) (by omega) (by omega) (by omega)) ?_
      obtain ⟨Mx, Mt, b, w, eM, hds, eo, hA, ho, hL⟩ := hM
      have hT := mw_T_eq eM hT
      have hcc := c_addMachine (t := nI (k % 2)) hfl hA ho (q_inv_mono hq.1 (by omega))
      rw [eo] at hcc
      have hgg := hA.gate
      rw [eo] at hgg
      have hc0 : f_addMachine_c x (nI (k % 2)) = 0 := l_amc (by have := hS.2.1; omega) (by omega)
      refine mr_goX X hT hds (mr_runVX X hT cb_RL_172 kw383 kw384 kw385 (b := o) (As := [.int (nI (k % 2))]) hcc (mr_cell X hT (mw_or_l hgg) rfl) rfl rfl hl.1 ⟨Nat.le_of_ble_eq_true rfl, Nat.le_of_ble_eq_true rfl⟩ (Nat.le_of_ble_eq_true rfl) dL_holds_196 ⟨by show ((52 + 4 * k + 4) : Nat) ≤ 8238; omega, by show ((9009 + 1314 * k + 1314) : Nat) ≤ 320395; omega⟩) (fun E ce9 q9 H locs hp hT h1 h2 h3 => False.elim (l_no hc0 hp)) (fun v M1 H locs hp hds hT => ?_)
      obtain ⟨r, rfl, -, rfl, b1, e00, w1, hA1, ho1⟩ := hp
      have hM : LW G o ad (f_addMachine_s x (nI (k % 2))) (zs z 1 (k) (nI (k % 2))) (mw_or M1 Mt) := ⟨M1, Mt, b1, w1, rfl, hds, e00.trans eo, hA1, ho1, hL⟩
      clear hA ho hL hcc hgg eo hA1 ho1 e00
      obtain ⟨M2, eM2⟩ : ∃ M2, M2 = mw_or M1 Mt := ⟨_, rfl⟩
      rw [← eM2] at hM
      have hT := mw_T_eq eM2.symm hT
      clear eM2 hds eM
      refine W.eq (g2 := F0 zm 199 ls (.int (nI (ct x 4)) :: _)) rfl ?_
      have hq1 := st_addMachine hq (l_amc (v := k % 2) (by have := hS.2.1; omega) (by omega))
      refine mm_top (w := nI k) (congrArg nI hS.2.1) ?_
      refine lv_iload X.1 X.2.1 dL_holds_199 (lv_at hl 0 rfl) ?_
      refine lv_icmp_ne X.1 X.2.1 (tgt := 208) dL_holds_201 (by decide) (fun c201 => absurd c201 (fun h => h rfl)) (fun c201 => ?_)
      refine lv_iconst X.1 X.2.1 (v := 1) dL_holds_204 (by decide) ?_
      refine lv_goto X.1 X.2.1 (tgt := 209) dL_holds_205 (by decide) ?_
      refine lv_istore X.1 X.2.1 dL_holds_209 hl (by decide) rfl (fun ls hl => ?_)
      refine lv_iinc X.1 X.2.1 (k := 1) (v := nI (k + 1)) dL_holds_211 hl rfl (mm_inc (k)) (by decide) rfl (fun ls hl => ?_)
      refine lv_goto X.1 X.2.1 (tgt := 172) dL_holds_214 (by decide) ?_
      refine W.widen (k := 52 + 4 * (k + 1)) (n := 9009 + 1314 * (k + 1)) (show ((52 + 4 * k + 4) : Nat) ≤ 52 + 4 * (k + 1) by omega) (show ((9009 + 1314 * k + 1314) : Nat) ≤ 9009 + 1314 * (k + 1) by omega) ?_
      exact ih172 (by omega) _ _ _ _ (⟨_, _, ST.machine hS, ⟨q_inv_mono hq1.1 (by omega), hq1.2⟩, hM⟩) hT (lv_sub hl [0, 1, 2, 3, 4, 5, 6, 7, 8, 9, 10] rfl)
  · skip
    have hkl := mm_stay hk (show 5 < 2 ^ 31 by omega) c62
    refine lv_iload X.1 X.2.1 dL_holds_65 (lv_at hl 1 rfl) ?_
    refine lv_if_eq X.1 X.2.1 (tgt := 169) dL_holds_67 (by decide) (fun c67 => absurd c67 (by decide)) (fun _ => ?_)
    refine lv_aload_n X.1 X.2.1 dL_holds_70 rfl (lv_at hl 8 rfl) ?_
    refine lv_iconst X.1 X.2.1 (v := 2) dL_holds_71 (by decide) ?_
    refine lv_iload X.1 X.2.1 dL_holds_72 (lv_at hl 0 rfl) ?_
    refine lv_imul X.1 X.2.1 dL_holds_74 ?_
    refine mm_top (w := nI (2 * k)) (pk_mul 2 k) ?_
    refine lv_aload_n X.1 X.2.1 dL_holds_75 rfl (lv_at hl 10 rfl) ?_
    refine lv_iload X.1 X.2.1 dL_holds_76 (lv_at hl 0 rfl) ?_
    refine lv_iconst X.1 X.2.1 (v := 3) dL_holds_78 (by decide) ?_
    refine mr_g X hT (fun hT' => mr_runSK X hT' (ex_S_ok b0 L xs) (ex_S_at X hT hex hbA) cb_RL_165 kw119 kw120 (As := [.ref b0, .int (nI k), .int 3]) (k_from hfl (k := k) (B := 3) (l_none hT hbA) (by decide) (by decide) (show k < 1000 by omega) hL) rfl rfl hl.1 ⟨Nat.le_of_ble_eq_true rfl, Nat.le_of_ble_eq_true rfl⟩ (Nat.le_of_ble_eq_true rfl) dL_holds_79 ⟨by show ((17 + 7 * k + 0) : Nat) ≤ 8238; omega, by show ((2344 + 1333 * k + 0) : Nat) ≤ 320395; omega⟩) (fun v M1 H locs hp hT => ?_)
    obtain ⟨r, rfl, v3, hv3, rfl, eM⟩ := hp
    subst eM
    refine W.eq (g2 := F0 zm 82 ls (.int (nI v3) :: _)) rfl ?_
    refine ml_ast X hT hM (k := 0) (j := 2 * k) (by decide) (show 2 * k < 10 by omega) dL_holds_82 (fun M1 H locs hM hT => ?_)
    refine lv_aload_n X.1 X.2.1 dL_holds_83 rfl (lv_at hl 8 rfl) ?_
    refine lv_iconst X.1 X.2.1 (v := 2) dL_holds_84 (by decide) ?_
    refine lv_iload X.1 X.2.1 dL_holds_85 (lv_at hl 0 rfl) ?_
    refine lv_imul X.1 X.2.1 dL_holds_87 ?_
    refine mm_top (w := nI (2 * k)) (pk_mul 2 k) ?_
    refine lv_iconst X.1 X.2.1 (v := 1) dL_holds_88 (by decide) ?_
    refine lv_iadd X.1 X.2.1 dL_holds_89 ?_
    refine mm_top (w := nI (2 * k + 1)) (nI_add (2 * k) 1) ?_
    refine lv_aload_n X.1 X.2.1 dL_holds_90 rfl (lv_at hl 10 rfl) ?_
    refine lv_iload X.1 X.2.1 dL_holds_91 (lv_at hl 0 rfl) ?_
    refine lv_bipush X.1 X.2.1 (v := 7) dL_holds_93 (by decide) ?_
    refine mr_g X hT (fun hT' => mr_runSK X hT' (ex_S_ok b0 L xs) (ex_S_at X hT hex hbA) cb_RL_165 kw119 kw120 (As := [.ref b0, .int (nI k), .int 7]) (k_from hfl (k := k) (B := 7) (l_none hT hbA) (by decide) (by decide) (show k < 1000 by omega) hL) rfl rfl hl.1 ⟨Nat.le_of_ble_eq_true rfl, Nat.le_of_ble_eq_true rfl⟩ (Nat.le_of_ble_eq_true rfl) dL_holds_95 ⟨by show ((17 + 7 * k + 0 + 0) : Nat) ≤ 8238; omega, by show ((2344 + 1333 * k + 0 + 0) : Nat) ≤ 320395; omega⟩) (fun v M1 H locs hp hT => ?_)
    obtain ⟨r, rfl, v7, hv7, rfl, eM⟩ := hp
    subst eM
    refine W.eq (g2 := F0 zm 98 ls (.int (nI v7) :: _)) rfl ?_
    refine lv_if_ne X.1 X.2.1 (tgt := 105) dL_holds_98 (by decide) (fun c98 => ?_) (fun c98 => ?_)
    · skip
      refine lv_iconst X.1 X.2.1 (v := 3) dL_holds_105 (by decide) ?_
      refine ml_ast X hT hM (k := 0) (j := 2 * k + 1) (by decide) (show 2 * k + 1 < 10 by omega) dL_holds_106 (fun M1 H locs hM hT => ?_)
      refine lv_aload_n X.1 X.2.1 dL_holds_107 rfl (lv_at hl 9 rfl) ?_
      refine lv_aload_n X.1 X.2.1 dL_holds_108 rfl (lv_at hl 8 rfl) ?_
      refine lv_iconst X.1 X.2.1 (v := 2) dL_holds_109 (by decide) ?_
      refine lv_iload X.1 X.2.1 dL_holds_110 (lv_at hl 0 rfl) ?_
      refine lv_imul X.1 X.2.1 dL_holds_112 ?_
      refine mm_top (w := nI (2 * k)) (pk_mul 2 k) ?_
      refine ml_ald X hT hM (k := 0) (j := 2 * k) (by decide) (show 2 * k < 10 by omega) dL_holds_113 ?_
      refine mm_top (w := nI v3) (by rw [zs_get, if_pos rfl, if_neg (by omega), zs_get, if_pos rfl, if_pos rfl]) ?_
      obtain ⟨Mx, Mt, b, w, eM, hds, eo, hA, ho, hL⟩ := hM
      have hT := mw_T_eq eM hT
      have hcc := c_addPerson (t := nI v3) hfl hA ho (q_inv_mono hq.1 (by omega)) hq.2
      rw [eo] at hcc
      have hgg := hA.gate
      rw [eo] at hgg
      have hc0 : f_addPerson_c x (nI v3) = 0 := l_apc (by have := hS.1; omega) hv3
      refine mr_goX X hT hds (mr_runVX X hT cb_RL_169 kw124 kw125 kw126 (b := o) (As := [.int (nI v3)]) hcc (mr_cell X hT (mw_or_l hgg) rfl) rfl rfl hl.1 ⟨Nat.le_of_ble_eq_true rfl, Nat.le_of_ble_eq_true rfl⟩ (Nat.le_of_ble_eq_true rfl) dL_holds_114 ⟨by show ((17 + 7 * k + 0 + 0 + 3) : Nat) ≤ 8238; omega, by show ((2344 + 1333 * k + 0 + 0 + 1309) : Nat) ≤ 320395; omega⟩) (fun E ce9 q9 H locs hp hT h1 h2 h3 => False.elim (l_no hc0 hp)) (fun v M1 H locs hp hds hT => ?_)
      obtain ⟨r, rfl, -, rfl, b1, e00, w1, hA1, ho1⟩ := hp
      have hM : LW G o ad (f_addPerson_s x (nI v3)) (zs (zs z 0 (2 * k) (nI v3)) 0 (2 * k + 1) 3) (mw_or M1 Mt) := ⟨M1, Mt, b1, w1, rfl, hds, e00.trans eo, hA1, ho1, hL⟩
      clear hA ho hL hcc hgg eo hA1 ho1 e00
      obtain ⟨M2, eM2⟩ : ∃ M2, M2 = mw_or M1 Mt := ⟨_, rfl⟩
      rw [← eM2] at hM
      have hT := mw_T_eq eM2.symm hT
      clear eM2 hds eM
      refine W.eq (g2 := F0 zm 117 ls (.int (nI (ct x 2)) :: _)) rfl ?_
      have hq1 := st_addPerson hq (l_apc (v := v3) (by have := hS.1; omega) hv3)
      refine mm_top (w := nI k) (congrArg nI hS.1) ?_
      refine lv_iload X.1 X.2.1 dL_holds_117 (lv_at hl 0 rfl) ?_
      refine lv_icmp_ne X.1 X.2.1 (tgt := 160) dL_holds_119 (by decide) (fun c119 => absurd c119 (fun h => h rfl)) (fun c119 => ?_)
      refine lv_aload_n X.1 X.2.1 dL_holds_122 rfl (lv_at hl 9 rfl) ?_
      refine lv_iload X.1 X.2.1 dL_holds_123 (lv_at hl 0 rfl) ?_
      refine lv_iconst X.1 X.2.1 (v := 0) dL_holds_125 (by decide) ?_
      refine lv_iconst X.1 X.2.1 (v := 1) dL_holds_126 (by decide) ?_
      obtain ⟨Mx, Mt, b, w, eM, hds, eo, hA, ho, hL⟩ := hM
      have hT := mw_T_eq eM hT
      have hcc := c_setLabelT (p := nI k) (ll := nI 0) hfl hA ho (q_inv_mono hq1.1 (by omega))
      rw [eo] at hcc
      have hgg := hA.gate
      rw [eo] at hgg
      have hc0 : f_setLabel_c (f_addPerson_s x (nI v3)) (nI k) (nI 0) = 0 := l_slc2 (x := f_addPerson_s x (nI v3)) (a := k) (b := 0) (show k < ct x 2 + 1 by have := hS.1; omega) (show ct x 2 + 1 < 2 ^ 31 by have := hS.1; omega) (by decide)
      refine mr_goX X hT hds (mr_runVX X hT cb_RL_149 kw293 kw294 kw295 (b := o) (As := [.int (nI k), .int 0, .int 1]) hcc (mr_cell X hT (mw_or_l hgg) rfl) rfl rfl hl.1 ⟨Nat.le_of_ble_eq_true rfl, Nat.le_of_ble_eq_true rfl⟩ (Nat.le_of_ble_eq_true rfl) dL_holds_127 ⟨by show ((17 + 7 * k + 0 + 0 + 3 + 2) : Nat) ≤ 8238; omega, by show ((2344 + 1333 * k + 0 + 0 + 1309 + 12) : Nat) ≤ 320395; omega⟩) (fun E ce9 q9 H locs hp hT h1 h2 h3 => False.elim (l_no hc0 hp)) (fun v M1 H locs hp hds hT => ?_)
      obtain ⟨r, rfl, -, rfl, b1, e00, w1, hA1, ho1⟩ := hp
      have hM : LW G o ad ((f_setLabel_s (f_addPerson_s x (nI v3)) (nI k) (nI 0) true).1) (zs (zs z 0 (2 * k) (nI v3)) 0 (2 * k + 1) 3) (mw_or M1 Mt) := ⟨M1, Mt, b1, w1, rfl, hds, e00.trans eo, hA1, ho1, hL⟩
      clear hA ho hL hcc hgg eo hA1 ho1 e00
      obtain ⟨M2, eM2⟩ : ∃ M2, M2 = mw_or M1 Mt := ⟨_, rfl⟩
      rw [← eM2] at hM
      have hT := mw_T_eq eM2.symm hT
      clear eM2 hds eM
      refine W.eq (g2 := F0 zm 130 ls (.int ((f_setLabel_s (f_addPerson_s x (nI v3)) (nI k) (nI 0) true).2) :: _)) rfl ?_
      have hq2 := st_setLabelT hq1 (l_slc2 (x := f_addPerson_s x (nI v3)) (a := k) (b := 0) (show k < ct x 2 + 1 by have := hS.1; omega) (show ct x 2 + 1 < 2 ^ 31 by have := hS.1; omega) (by decide))
      have eX0 := l_sls (x := f_addPerson_s x (nI v3)) (a := k) (b := 0) (by omega) (by decide)
      rw [eX0] at hM hq2
      refine mm_top (w := 0) (congrArg Prod.snd eX0) ?_
      refine lv_if_ne X.1 X.2.1 (tgt := 160) dL_holds_130 (by decide) (fun c130 => absurd (by decide) c130) (fun _ => ?_)
      refine lv_aload_n X.1 X.2.1 dL_holds_133 rfl (lv_at hl 8 rfl) ?_
      refine lv_iconst X.1 X.2.1 (v := 2) dL_holds_134 (by decide) ?_
      refine lv_iload X.1 X.2.1 dL_holds_135 (lv_at hl 0 rfl) ?_
      refine lv_imul X.1 X.2.1 dL_holds_137 ?_
      refine mm_top (w := nI (2 * k)) (pk_mul 2 k) ?_
      refine lv_iconst X.1 X.2.1 (v := 1) dL_holds_138 (by decide) ?_
      refine lv_iadd X.1 X.2.1 dL_holds_139 ?_
      refine mm_top (w := nI (2 * k + 1)) (nI_add (2 * k) 1) ?_
      refine ml_ald X hT hM (k := 0) (j := 2 * k + 1) (by decide) (show 2 * k + 1 < 10 by omega) dL_holds_140 ?_
      refine mm_top (w := 3) (by rw [zs_get, if_pos rfl, if_pos rfl]) ?_
      refine lv_iconst X.1 X.2.1 (v := 1) dL_holds_141 (by decide) ?_
      refine lv_icmp_eq X.1 X.2.1 (tgt := 156) dL_holds_142 (by decide) (fun c142 => absurd c142 (by decide)) (fun _ => ?_)
      refine lv_aload_n X.1 X.2.1 dL_holds_145 rfl (lv_at hl 9 rfl) ?_
      refine lv_iload X.1 X.2.1 dL_holds_146 (lv_at hl 0 rfl) ?_
      refine lv_iconst X.1 X.2.1 (v := 1) dL_holds_148 (by decide) ?_
      refine lv_iconst X.1 X.2.1 (v := 1) dL_holds_149 (by decide) ?_
      obtain ⟨Mx, Mt, b, w, eM, hds, eo, hA, ho, hL⟩ := hM
      have hT := mw_T_eq eM hT
      have hcc := c_setLabelT (p := nI k) (ll := nI 1) hfl hA ho (q_inv_mono hq2.1 (by omega))
      rw [eo] at hcc
      have hgg := hA.gate
      rw [eo] at hgg
      have hc0 : f_setLabel_c ((cs (f_addPerson_s x (nI v3)) 1 (4 * k + 0) 1, (0 : Int32)).1) (nI k) (nI 1) = 0 := l_slc2 (x := (cs (f_addPerson_s x (nI v3)) 1 (4 * k + 0) 1, (0 : Int32)).1) (a := k) (b := 1) (show k < ct x 2 + 1 by have := hS.1; omega) (show ct x 2 + 1 < 2 ^ 31 by have := hS.1; omega) (by decide)
      refine mr_goX X hT hds (mr_runVX X hT cb_RL_149 kw293 kw294 kw295 (b := o) (As := [.int (nI k), .int 1, .int 1]) hcc (mr_cell X hT (mw_or_l hgg) rfl) rfl rfl hl.1 ⟨Nat.le_of_ble_eq_true rfl, Nat.le_of_ble_eq_true rfl⟩ (Nat.le_of_ble_eq_true rfl) dL_holds_150 ⟨by show ((17 + 7 * k + 0 + 0 + 3 + 2 + 2) : Nat) ≤ 8238; omega, by show ((2344 + 1333 * k + 0 + 0 + 1309 + 12 + 12) : Nat) ≤ 320395; omega⟩) (fun E ce9 q9 H locs hp hT h1 h2 h3 => False.elim (l_no hc0 hp)) (fun v M1 H locs hp hds hT => ?_)
      obtain ⟨r, rfl, -, rfl, b1, e00, w1, hA1, ho1⟩ := hp
      have hM : LW G o ad ((f_setLabel_s ((cs (f_addPerson_s x (nI v3)) 1 (4 * k + 0) 1, (0 : Int32)).1) (nI k) (nI 1) true).1) (zs (zs z 0 (2 * k) (nI v3)) 0 (2 * k + 1) 3) (mw_or M1 Mt) := ⟨M1, Mt, b1, w1, rfl, hds, e00.trans eo, hA1, ho1, hL⟩
      clear hA ho hL hcc hgg eo hA1 ho1 e00
      obtain ⟨M2, eM2⟩ : ∃ M2, M2 = mw_or M1 Mt := ⟨_, rfl⟩
      rw [← eM2] at hM
      have hT := mw_T_eq eM2.symm hT
      clear eM2 hds eM
      refine W.eq (g2 := F0 zm 153 ls (.int ((f_setLabel_s ((cs (f_addPerson_s x (nI v3)) 1 (4 * k + 0) 1, (0 : Int32)).1) (nI k) (nI 1) true).2) :: _)) rfl ?_
      have hq3 := st_setLabelT hq2 (l_slc2 (x := (cs (f_addPerson_s x (nI v3)) 1 (4 * k + 0) 1, (0 : Int32)).1) (a := k) (b := 1) (show k < ct x 2 + 1 by have := hS.1; omega) (show ct x 2 + 1 < 2 ^ 31 by have := hS.1; omega) (by decide))
      have eX1 := l_sls (x := (cs (f_addPerson_s x (nI v3)) 1 (4 * k + 0) 1, (0 : Int32)).1) (a := k) (b := 1) (by omega) (by decide)
      rw [eX1] at hM hq3
      refine mm_top (w := 0) (congrArg Prod.snd eX1) ?_
      refine lv_if_ne X.1 X.2.1 (tgt := 160) dL_holds_153 (by decide) (fun c153 => absurd (by decide) c153) (fun _ => ?_)
      refine lv_iconst X.1 X.2.1 (v := 1) dL_holds_156 (by decide) ?_
      refine lv_goto X.1 X.2.1 (tgt := 161) dL_holds_157 (by decide) ?_
      refine lv_istore X.1 X.2.1 dL_holds_161 hl (by decide) rfl (fun ls hl => ?_)
      refine lv_iinc X.1 X.2.1 (k := 1) (v := nI (k + 1)) dL_holds_163 hl rfl (mm_inc (k)) (by decide) rfl (fun ls hl => ?_)
      refine lv_goto X.1 X.2.1 (tgt := 59) dL_holds_166 (by decide) ?_
      refine W.widen (k := 17 + 7 * (k + 1)) (n := 2344 + 1333 * (k + 1)) (show ((17 + 7 * k + 0 + 0 + 3 + 2 + 2) : Nat) ≤ 17 + 7 * (k + 1) by omega) (show ((2344 + 1333 * k + 0 + 0 + 1309 + 12 + 12) : Nat) ≤ 2344 + 1333 * (k + 1) by omega) ?_
      exact ih59 (by omega) _ _ _ _ (⟨_, _, ST.personB hS, ⟨q_inv_mono hq3.1 (by omega), hq3.2⟩, hM⟩) hT (lv_sub hl [0, 1, 2, 3, 4, 5, 6, 7, 8, 9, 10] rfl)
    · skip
      refine lv_iconst X.1 X.2.1 (v := 1) dL_holds_101 (by decide) ?_
      refine lv_goto X.1 X.2.1 (tgt := 106) dL_holds_102 (by decide) ?_
      refine ml_ast X hT hM (k := 0) (j := 2 * k + 1) (by decide) (show 2 * k + 1 < 10 by omega) dL_holds_106 (fun M1 H locs hM hT => ?_)
      refine lv_aload_n X.1 X.2.1 dL_holds_107 rfl (lv_at hl 9 rfl) ?_
      refine lv_aload_n X.1 X.2.1 dL_holds_108 rfl (lv_at hl 8 rfl) ?_
      refine lv_iconst X.1 X.2.1 (v := 2) dL_holds_109 (by decide) ?_
      refine lv_iload X.1 X.2.1 dL_holds_110 (lv_at hl 0 rfl) ?_
      refine lv_imul X.1 X.2.1 dL_holds_112 ?_
      refine mm_top (w := nI (2 * k)) (pk_mul 2 k) ?_
      refine ml_ald X hT hM (k := 0) (j := 2 * k) (by decide) (show 2 * k < 10 by omega) dL_holds_113 ?_
      refine mm_top (w := nI v3) (by rw [zs_get, if_pos rfl, if_neg (by omega), zs_get, if_pos rfl, if_pos rfl]) ?_
      obtain ⟨Mx, Mt, b, w, eM, hds, eo, hA, ho, hL⟩ := hM
      have hT := mw_T_eq eM hT
      have hcc := c_addPerson (t := nI v3) hfl hA ho (q_inv_mono hq.1 (by omega)) hq.2
      rw [eo] at hcc
      have hgg := hA.gate
      rw [eo] at hgg
      have hc0 : f_addPerson_c x (nI v3) = 0 := l_apc (by have := hS.1; omega) hv3
      refine mr_goX X hT hds (mr_runVX X hT cb_RL_169 kw124 kw125 kw126 (b := o) (As := [.int (nI v3)]) hcc (mr_cell X hT (mw_or_l hgg) rfl) rfl rfl hl.1 ⟨Nat.le_of_ble_eq_true rfl, Nat.le_of_ble_eq_true rfl⟩ (Nat.le_of_ble_eq_true rfl) dL_holds_114 ⟨by show ((17 + 7 * k + 0 + 0 + 3) : Nat) ≤ 8238; omega, by show ((2344 + 1333 * k + 0 + 0 + 1309) : Nat) ≤ 320395; omega⟩) (fun E ce9 q9 H locs hp hT h1 h2 h3 => False.elim (l_no hc0 hp)) (fun v M1 H locs hp hds hT => ?_)
      obtain ⟨r, rfl, -, rfl, b1, e00, w1, hA1, ho1⟩ := hp
      have hM : LW G o ad (f_addPerson_s x (nI v3)) (zs (zs z 0 (2 * k) (nI v3)) 0 (2 * k + 1) 1) (mw_or M1 Mt) := ⟨M1, Mt, b1, w1, rfl, hds, e00.trans eo, hA1, ho1, hL⟩
      clear hA ho hL hcc hgg eo hA1 ho1 e00
      obtain ⟨M2, eM2⟩ : ∃ M2, M2 = mw_or M1 Mt := ⟨_, rfl⟩
      rw [← eM2] at hM
      have hT := mw_T_eq eM2.symm hT
      clear eM2 hds eM
      refine W.eq (g2 := F0 zm 117 ls (.int (nI (ct x 2)) :: _)) rfl ?_
      have hq1 := st_addPerson hq (l_apc (v := v3) (by have := hS.1; omega) hv3)
      refine mm_top (w := nI k) (congrArg nI hS.1) ?_
      refine lv_iload X.1 X.2.1 dL_holds_117 (lv_at hl 0 rfl) ?_
      refine lv_icmp_ne X.1 X.2.1 (tgt := 160) dL_holds_119 (by decide) (fun c119 => absurd c119 (fun h => h rfl)) (fun c119 => ?_)
      refine lv_aload_n X.1 X.2.1 dL_holds_122 rfl (lv_at hl 9 rfl) ?_
      refine lv_iload X.1 X.2.1 dL_holds_123 (lv_at hl 0 rfl) ?_
      refine lv_iconst X.1 X.2.1 (v := 0) dL_holds_125 (by decide) ?_
      refine lv_iconst X.1 X.2.1 (v := 1) dL_holds_126 (by decide) ?_
      obtain ⟨Mx, Mt, b, w, eM, hds, eo, hA, ho, hL⟩ := hM
      have hT := mw_T_eq eM hT
      have hcc := c_setLabelT (p := nI k) (ll := nI 0) hfl hA ho (q_inv_mono hq1.1 (by omega))
      rw [eo] at hcc
      have hgg := hA.gate
      rw [eo] at hgg
      have hc0 : f_setLabel_c (f_addPerson_s x (nI v3)) (nI k) (nI 0) = 0 := l_slc2 (x := f_addPerson_s x (nI v3)) (a := k) (b := 0) (show k < ct x 2 + 1 by have := hS.1; omega) (show ct x 2 + 1 < 2 ^ 31 by have := hS.1; omega) (by decide)
      refine mr_goX X hT hds (mr_runVX X hT cb_RL_149 kw293 kw294 kw295 (b := o) (As := [.int (nI k), .int 0, .int 1]) hcc (mr_cell X hT (mw_or_l hgg) rfl) rfl rfl hl.1 ⟨Nat.le_of_ble_eq_true rfl, Nat.le_of_ble_eq_true rfl⟩ (Nat.le_of_ble_eq_true rfl) dL_holds_127 ⟨by show ((17 + 7 * k + 0 + 0 + 3 + 2) : Nat) ≤ 8238; omega, by show ((2344 + 1333 * k + 0 + 0 + 1309 + 12) : Nat) ≤ 320395; omega⟩) (fun E ce9 q9 H locs hp hT h1 h2 h3 => False.elim (l_no hc0 hp)) (fun v M1 H locs hp hds hT => ?_)
      obtain ⟨r, rfl, -, rfl, b1, e00, w1, hA1, ho1⟩ := hp
      have hM : LW G o ad ((f_setLabel_s (f_addPerson_s x (nI v3)) (nI k) (nI 0) true).1) (zs (zs z 0 (2 * k) (nI v3)) 0 (2 * k + 1) 1) (mw_or M1 Mt) := ⟨M1, Mt, b1, w1, rfl, hds, e00.trans eo, hA1, ho1, hL⟩
      clear hA ho hL hcc hgg eo hA1 ho1 e00
      obtain ⟨M2, eM2⟩ : ∃ M2, M2 = mw_or M1 Mt := ⟨_, rfl⟩
      rw [← eM2] at hM
      have hT := mw_T_eq eM2.symm hT
      clear eM2 hds eM
      refine W.eq (g2 := F0 zm 130 ls (.int ((f_setLabel_s (f_addPerson_s x (nI v3)) (nI k) (nI 0) true).2) :: _)) rfl ?_
      have hq2 := st_setLabelT hq1 (l_slc2 (x := f_addPerson_s x (nI v3)) (a := k) (b := 0) (show k < ct x 2 + 1 by have := hS.1; omega) (show ct x 2 + 1 < 2 ^ 31 by have := hS.1; omega) (by decide))
      have eX0 := l_sls (x := f_addPerson_s x (nI v3)) (a := k) (b := 0) (by omega) (by decide)
      rw [eX0] at hM hq2
      refine mm_top (w := 0) (congrArg Prod.snd eX0) ?_
      refine lv_if_ne X.1 X.2.1 (tgt := 160) dL_holds_130 (by decide) (fun c130 => absurd (by decide) c130) (fun _ => ?_)
      refine lv_aload_n X.1 X.2.1 dL_holds_133 rfl (lv_at hl 8 rfl) ?_
      refine lv_iconst X.1 X.2.1 (v := 2) dL_holds_134 (by decide) ?_
      refine lv_iload X.1 X.2.1 dL_holds_135 (lv_at hl 0 rfl) ?_
      refine lv_imul X.1 X.2.1 dL_holds_137 ?_
      refine mm_top (w := nI (2 * k)) (pk_mul 2 k) ?_
      refine lv_iconst X.1 X.2.1 (v := 1) dL_holds_138 (by decide) ?_
      refine lv_iadd X.1 X.2.1 dL_holds_139 ?_
      refine mm_top (w := nI (2 * k + 1)) (nI_add (2 * k) 1) ?_
      refine ml_ald X hT hM (k := 0) (j := 2 * k + 1) (by decide) (show 2 * k + 1 < 10 by omega) dL_holds_140 ?_
      refine mm_top (w := 1) (by rw [zs_get, if_pos rfl, if_pos rfl]) ?_
      refine lv_iconst X.1 X.2.1 (v := 1) dL_holds_141 (by decide) ?_
      refine lv_icmp_eq X.1 X.2.1 (tgt := 156) dL_holds_142 (by decide) (fun _ => ?_) (fun c142 => absurd (by decide) c142)
      refine lv_iconst X.1 X.2.1 (v := 1) dL_holds_156 (by decide) ?_
      refine lv_goto X.1 X.2.1 (tgt := 161) dL_holds_157 (by decide) ?_
      refine lv_istore X.1 X.2.1 dL_holds_161 hl (by decide) rfl (fun ls hl => ?_)
      refine lv_iinc X.1 X.2.1 (k := 1) (v := nI (k + 1)) dL_holds_163 hl rfl (mm_inc (k)) (by decide) rfl (fun ls hl => ?_)
      refine lv_goto X.1 X.2.1 (tgt := 59) dL_holds_166 (by decide) ?_
      refine W.widen (k := 17 + 7 * (k + 1)) (n := 2344 + 1333 * (k + 1)) (show ((17 + 7 * k + 0 + 0 + 3 + 2) : Nat) ≤ 17 + 7 * (k + 1) by omega) (show ((2344 + 1333 * k + 0 + 0 + 1309 + 12) : Nat) ≤ 2344 + 1333 * (k + 1) by omega) ?_
      exact ih59 (by omega) _ _ _ _ (⟨_, _, ST.personA hS hq.2, ⟨q_inv_mono hq2.1 (by omega), hq2.2⟩, hM⟩) hT (lv_sub hl [0, 1, 2, 3, 4, 5, 6, 7, 8, 9, 10] rfl)
