theorem law_eqi {args : Array Value} {s : State} {t : Term} {z : Int32} (h : (Cond.eq t (.int z)).before args s = true) : t.eval args s none [] s = some (.int z) := by
  cases hv : t.eval args s none [] s with
  | none => simp [Cond.before, Cond.holds, Cond.value, hv] at h
  | some w =>
    have hz : (Term.int z).eval args s none [] s = some (.int z) := rfl
    simp only [Cond.before, Cond.holds, Cond.value, hv, hz] at h
    cases w <;> simp_all
set_option maxHeartbeats 4000000 in
set_option maxRecDepth 100000 in
theorem law_turn {p : Program} {l : Launch} {e : Env} {s : State} {m : MethodId} {below : List Frame} {meth : Method} {c : Code} {G : mw_G} (hfl : l.stackTraces = false) (X : mw_B p l s m meth c code 7 RL G (fun q => s.heap.size ≤ q)) (hN : mw_N s) {b0 L : Nat} {xs : Nat → Int32} (hX : va_X b0 L xs s s.heap) (hbl : b0 < s.heap.size) {gx hm o : Nat} {ad : Nat → Nat} {k : Nat} {H : Heap} {locs : List Loc} {ls : Array Slot} {cells slots : Nat} (hk : k ≤ 511) (hkL : 4 * k + 4 ≤ L) (hL : L ≤ 2048) (hI : law_I G s b0 gx hm o ad k (4 * k) H locs ls cells slots) (nx : ∀ (H : Heap) (locs : List Loc) (ls : Array Slot) (cells slots : Nat), law_I G s b0 gx hm o ad (k + 1) (4 * k) H locs ls cells slots → W p l e room_1 s m #[Value.ref b0] below meth c H locs cells slots (lw_Z below #[Value.ref b0] s) (F0 m 1495 ls [])) : W p l e room_1 s m #[Value.ref b0] below meth c H locs cells slots (lw_Z below #[Value.ref b0] s) (F0 m 32 ls []) := by
  obtain ⟨b, x, w, lst, Mx, Mt, f, e00, hA, ho, hq, hM, hd, hds, hT, hl, hce, hsl⟩ := id hI
  have hbA : ¬ (fun q => s.heap.size ≤ q) b0 := Nat.not_le.mpr hbl
  refine lv_aload_n X.1 X.2.1 dL_law_32 rfl (lv_at hl 1 rfl) ?_
  refine lv_iload X.1 X.2.1 dL_law_33 (lv_at hl 0 rfl) ?_
  refine va_sld X.1 X.2.1 hX hbl hbA hT.2.2 (vp_in_nI (n := 4 * k) (by omega) (by omega)) dL_law_35 ?_
  refine lv_bipush X.1 X.2.1 (v := 31) dL_law_36 (by decide) ?_
  refine lv_iand X.1 X.2.1 dL_law_38 ?_
  generalize xs (nI (4 * k)).toNatClampNeg &&& 31 = v
  by_cases hv : 0 ≤ v.toInt ∧ v.toInt ≤ 22
  · obtain ⟨n, hn, e⟩ : ∃ n : Nat, n ≤ 22 ∧ v.toInt = (n : Int) := ⟨v.toInt.toNat, by omega, by omega⟩
    rcases (show n = 0 ∨ n = 1 ∨ n = 2 ∨ n = 3 ∨ n = 4 ∨ n = 5 ∨ n = 6 ∨ n = 7 ∨ n = 8 ∨ n = 9 ∨ n = 10 ∨ n = 11 ∨ n = 12 ∨ n = 13 ∨ n = 14 ∨ n = 15 ∨ n = 16 ∨ n = 17 ∨ n = 18 ∨ n = 19 ∨ n = 20 ∨ n = 21 ∨ n = 22 by omega) with rfl | rfl | rfl | rfl | rfl | rfl | rfl | rfl | rfl | rfl | rfl | rfl | rfl | rfl | rfl | rfl | rfl | rfl | rfl | rfl | rfl | rfl | rfl
    · refine lv_tableIn X.1 X.2.1 (off := 105) (tgt := 144) dL_law_39 (by rw [e]; decide) (by rw [e]; decide) (by rw [e]; rfl) (by decide) ?_
      exact law_c0 hfl X hN hX hbl hk hkL hL hI nx
    · refine lv_tableIn X.1 X.2.1 (off := 161) (tgt := 200) dL_law_39 (by rw [e]; decide) (by rw [e]; decide) (by rw [e]; rfl) (by decide) ?_
      exact law_c1 hfl X hN hX hbl hk hkL hL hI nx
    · refine lv_tableIn X.1 X.2.1 (off := 217) (tgt := 256) dL_law_39 (by rw [e]; decide) (by rw [e]; decide) (by rw [e]; rfl) (by decide) ?_
      by_cases h3 : xs (4 * k + 3) = 0
      · exact law_c2F hfl X hN hX hbl hk hkL hL hI h3 nx
      · exact law_c2T hfl X hN hX hbl hk hkL hL hI h3 nx
    · refine lv_tableIn X.1 X.2.1 (off := 313) (tgt := 352) dL_law_39 (by rw [e]; decide) (by rw [e]; decide) (by rw [e]; rfl) (by decide) ?_
      exact law_c3 hfl X hN hX hbl hk hkL hL hI nx
    · refine lv_tableIn X.1 X.2.1 (off := 381) (tgt := 420) dL_law_39 (by rw [e]; decide) (by rw [e]; decide) (by rw [e]; rfl) (by decide) ?_
      exact law_c4 hfl X hN hX hbl hk hkL hL hI nx
    · refine lv_tableIn X.1 X.2.1 (off := 461) (tgt := 500) dL_law_39 (by rw [e]; decide) (by rw [e]; decide) (by rw [e]; rfl) (by decide) ?_
      exact law_c5 hfl X hN hX hbl hk hkL hL hI nx
    · refine lv_tableIn X.1 X.2.1 (off := 536) (tgt := 575) dL_law_39 (by rw [e]; decide) (by rw [e]; decide) (by rw [e]; rfl) (by decide) ?_
      exact law_c6 hfl X hN hX hbl hk hkL hL hI nx
    · refine lv_tableIn X.1 X.2.1 (off := 584) (tgt := 623) dL_law_39 (by rw [e]; decide) (by rw [e]; decide) (by rw [e]; rfl) (by decide) ?_
      exact law_c7 hfl X hN hX hbl hk hkL hL hI nx
    · refine lv_tableIn X.1 X.2.1 (off := 640) (tgt := 679) dL_law_39 (by rw [e]; decide) (by rw [e]; decide) (by rw [e]; rfl) (by decide) ?_
      exact law_c8 hfl X hN hX hbl hk hkL hL hI nx
    · refine lv_tableIn X.1 X.2.1 (off := 708) (tgt := 747) dL_law_39 (by rw [e]; decide) (by rw [e]; decide) (by rw [e]; rfl) (by decide) ?_
      exact law_c9 hfl X hN hX hbl hk hkL hL hI nx
    · refine lv_tableIn X.1 X.2.1 (off := 776) (tgt := 815) dL_law_39 (by rw [e]; decide) (by rw [e]; decide) (by rw [e]; rfl) (by decide) ?_
      exact law_c10 hfl X hN hX hbl hk hkL hL hI nx
    · refine lv_tableIn X.1 X.2.1 (off := 832) (tgt := 871) dL_law_39 (by rw [e]; decide) (by rw [e]; decide) (by rw [e]; rfl) (by decide) ?_
      exact law_c11 hfl X hN hX hbl hk hkL hL hI nx
    · refine lv_tableIn X.1 X.2.1 (off := 919) (tgt := 958) dL_law_39 (by rw [e]; decide) (by rw [e]; decide) (by rw [e]; rfl) (by decide) ?_
      exact law_c12 hfl X hN hX hbl hk hkL hL hI nx
    · refine lv_tableIn X.1 X.2.1 (off := 987) (tgt := 1026) dL_law_39 (by rw [e]; decide) (by rw [e]; decide) (by rw [e]; rfl) (by decide) ?_
      exact law_c13 hfl X hN hX hbl hk hkL hL hI nx
    · refine lv_tableIn X.1 X.2.1 (off := 1062) (tgt := 1101) dL_law_39 (by rw [e]; decide) (by rw [e]; decide) (by rw [e]; rfl) (by decide) ?_
      exact law_c14 hfl X hN hX hbl hk hkL hL hI nx
    · refine lv_tableIn X.1 X.2.1 (off := 1130) (tgt := 1169) dL_law_39 (by rw [e]; decide) (by rw [e]; decide) (by rw [e]; rfl) (by decide) ?_
      exact law_c15 hfl X hN hX hbl hk hkL hL hI nx
    · refine lv_tableIn X.1 X.2.1 (off := 1186) (tgt := 1225) dL_law_39 (by rw [e]; decide) (by rw [e]; decide) (by rw [e]; rfl) (by decide) ?_
      exact law_c16 hfl X hN hX hbl hk hkL hL hI nx
    · refine lv_tableIn X.1 X.2.1 (off := 1249) (tgt := 1288) dL_law_39 (by rw [e]; decide) (by rw [e]; decide) (by rw [e]; rfl) (by decide) ?_
      exact law_c17 hfl X hN hX hbl hk hkL hL hI nx
    · refine lv_tableIn X.1 X.2.1 (off := 1262) (tgt := 1301) dL_law_39 (by rw [e]; decide) (by rw [e]; decide) (by rw [e]; rfl) (by decide) ?_
      exact law_c18 hfl X hN hX hbl hk hkL hL hI nx
    · refine lv_tableIn X.1 X.2.1 (off := 1318) (tgt := 1357) dL_law_39 (by rw [e]; decide) (by rw [e]; decide) (by rw [e]; rfl) (by decide) ?_
      exact law_c19 hfl X hN hX hbl hk hkL hL hI nx
    · refine lv_tableIn X.1 X.2.1 (off := 1331) (tgt := 1370) dL_law_39 (by rw [e]; decide) (by rw [e]; decide) (by rw [e]; rfl) (by decide) ?_
      exact law_c20 hfl X hN hX hbl hk hkL hL hI nx
    · refine lv_tableIn X.1 X.2.1 (off := 1344) (tgt := 1383) dL_law_39 (by rw [e]; decide) (by rw [e]; decide) (by rw [e]; rfl) (by decide) ?_
      exact law_c21 hfl X hN hX hbl hk hkL hL hI nx
    · refine lv_tableIn X.1 X.2.1 (off := 1400) (tgt := 1439) dL_law_39 (by rw [e]; decide) (by rw [e]; decide) (by rw [e]; rfl) (by decide) ?_
      exact law_c22 hfl X hN hX hbl hk hkL hL hI nx
  · refine lv_tableOut X.1 X.2.1 (tgt := 1495) dL_law_39 (by omega) (by decide) ?_
    refine nx _ _ _ _ _ ?_
    exact ⟨b, x, w, lst, Mx, Mt, f, e00, hA, ho, st_same hq, hM, hd, hds, hT, hl, by omega, by omega⟩
set_option maxHeartbeats 4000000 in
theorem law_head {p : Program} {l : Launch} {e : Env} {s : State} {m : MethodId} {below : List Frame} {meth : Method} {c : Code} {G : mw_G} (hfl : l.stackTraces = false) (hret : meth.sig.returnType = ret) (X : mw_B p l s m meth c code 7 RL G (fun q => s.heap.size ≤ q)) {b0 L : Nat} {xs : Nat → Int32} (hX : va_X b0 L xs s s.heap) (hbl : b0 < s.heap.size) {gx hm o : Nat} {ad : Nat → Nat} {k : Nat} {H : Heap} {locs : List Loc} {ls : Array Slot} {cells slots : Nat} (hk : k ≤ 512) (hL : L ≤ 2048) (hI : law_I G s b0 gx hm o ad k (4 * k) H locs ls cells slots) (nx : 4 * k + 4 ≤ L → W p l e room_1 s m #[Value.ref b0] below meth c H locs cells slots (lw_Z below #[Value.ref b0] s) (F0 m 32 ls [])) : W p l e room_1 s m #[Value.ref b0] below meth c H locs cells slots (lw_Z below #[Value.ref b0] s) (F0 m 23 ls []) := by
  obtain ⟨b, x, w, lst, Mx, Mt, f, e00, hA, ho, hq, hM, hd, hds, hT, hl, hce, hsl⟩ := id hI
  have hbA : ¬ (fun q => s.heap.size ≤ q) b0 := Nat.not_le.mpr hbl
  refine lv_iload X.1 X.2.1 dL_law_23 (lv_at hl 0 rfl) ?_
  refine lv_aload_n X.1 X.2.1 dL_law_25 rfl (lv_at hl 1 rfl) ?_
  refine va_slen X.1 X.2.1 hX hbl hbA hT.2.2 dL_law_26 ?_
  refine lv_iconst X.1 X.2.1 (v := 4) dL_law_27 (by decide) ?_
  refine lv_isub X.1 X.2.1 dL_law_28 ?_
  have e9 : (Int32.ofNat L - 4).toInt = (L : Int) - 4 := pk_sub_toInt (a := L) (b := 4) (by omega) (by decide)
  have e8 : (nI (4 * k)).toInt = ((4 * k : Nat) : Int) := nI_toInt (by omega)
  refine lv_icmp_gt X.1 X.2.1 (tgt := 1501) dL_law_29 (by decide) (fun c29 => ?_) (fun c29 => ?_)
  · refine lv_iconst X.1 X.2.1 (v := 1) dL_law_1501 (by decide) ?_
    refine va_forget (fun q hq => hT.2.2.2.2 q hq) ?_
    refine W.widen (k := 601024) (n := 7293034) (by omega) (by omega) ?_
    exact lw_ret X.1 X.2.1 hret X.2.2.2.2.2.2.2.1 dL_law_1502
  · refine nx ?_
    rw [Int32.lt_iff_toInt_lt, e9, e8] at c29
    omega
set_option maxHeartbeats 4000000 in
theorem law_loop {p : Program} {l : Launch} {e : Env} {s : State} {m : MethodId} {below : List Frame} {meth : Method} {c : Code} {G : mw_G} (hfl : l.stackTraces = false) (hret : meth.sig.returnType = ret) (X : mw_B p l s m meth c code 7 RL G (fun q => s.heap.size ≤ q)) (hN : mw_N s) {b0 L : Nat} {xs : Nat → Int32} (hX : va_X b0 L xs s s.heap) (hbl : b0 < s.heap.size) (hL : L ≤ 2048) {gx hm o : Nat} {ad : Nat → Nat} : ∀ (d k : Nat) (H : Heap) (locs : List Loc) (ls : Array Slot) (cells slots : Nat), k + d = L / 4 → law_I G s b0 gx hm o ad k (4 * k) H locs ls cells slots → W p l e room_1 s m #[Value.ref b0] below meth c H locs cells slots (lw_Z below #[Value.ref b0] s) (F0 m 23 ls []) := by
  intro d
  induction d with
  | zero =>
    intro k H locs ls cells slots hd hI
    exact law_head hfl hret X hX hbl (by omega) hL hI (fun h => absurd h (by omega))
  | succ d ih =>
    intro k H locs ls cells slots hd hI
    refine law_head hfl hret X hX hbl (by omega) hL hI (fun h => ?_)
    refine law_turn hfl X hN hX hbl (by omega) h hL hI (fun H locs ls cells slots hI => ?_)
    obtain ⟨b, x, w, lst, Mx, Mt, f, e00, hA, ho, hq, hM, hd1, hds, hT, hl, hce, hsl⟩ := hI
    refine lv_iinc X.1 X.2.1 (k := 0) (v := nI (4 * (k + 1))) dL_law_1495 hl rfl (nI_add _ 4) (by decide) rfl (fun ls hl => ?_)
    refine lv_goto X.1 X.2.1 (tgt := 23) dL_law_1498 (by decide) ?_
    exact ih (k + 1) _ _ _ _ _ (by omega) ⟨b, x, w, lst, Mx, Mt, f, e00, hA, ho, hq, hM, hd1, hds, hT, lv_sub hl [0, 1, 2, 3, 4] rfl, hce, hsl⟩
theorem law_up {M : mw_M} {q : Nat} {e : va_E} (h : M q = none) : va_up M q (some e) = mw_or (va_up mw_nil q (some e)) M ∧ mw_ds (va_up mw_nil q (some e)) M := by
  refine ⟨funext fun a => ?_, fun a ha => ?_⟩
  · unfold mw_or
    by_cases hq : a = q
    · rw [hq, va_up_self, va_up_self]; rfl
    · rw [va_up_ne _ _ hq, va_up_ne _ _ hq]; rfl
  · by_cases hq : a = q
    · rw [hq]; exact h
    · rw [va_up_ne _ _ hq] at ha
      exact absurd rfl ha
set_option maxHeartbeats 4000000 in
set_option maxRecDepth 100000 in
theorem start_S {s : State} {b : Nat} (hs : ∀ w ∈ flatC (Jvm.Cond.and given_1 narrow_1), w.before #[Value.ref b] s = true) (hts : ∀ w ∈ lw_tbl, w.before #[Value.ref b] s = true) : ∀ q ∈ mw_S, mw_Sr q s := by
  have key : ∀ (n : Nat) (tx : String), Cond.stringRef "AccessGate" n tx ∈ lw_tbl → (Cond.exactly (.string "AccessGate" n) "java/lang/String").before #[Value.ref b] s = true → mw_Sr ("AccessGate", n, tx) s := fun n tx h1 h2 => by
    obtain ⟨a, c9, cell9, k9, h3, -⟩ := Cond.exactly_spec h2
    exact ⟨a, vk_R.of (hts _ h1) h3⟩
  exact List.forall_mem_cons.mpr ⟨key 47 _ (List.mem_of_getElem? (i := 217) rfl) (hs _ (by decide +kernel)),
    List.forall_mem_cons.mpr ⟨key 58 _ (List.mem_of_getElem? (i := 257) rfl) (hs _ (by decide +kernel)),
    List.forall_mem_cons.mpr ⟨key 74 _ (List.mem_of_getElem? (i := 353) rfl) (hs _ (by decide +kernel)),
    List.forall_mem_cons.mpr ⟨key 108 _ (List.mem_of_getElem? (i := 478) rfl) (hs _ (by decide +kernel)),
    List.forall_mem_cons.mpr ⟨key 136 _ (List.mem_of_getElem? (i := 554) rfl) (hs _ (by decide +kernel)),
    List.forall_mem_cons.mpr ⟨key 171 _ (List.mem_of_getElem? (i := 629) rfl) (hs _ (by decide +kernel)),
    List.forall_mem_cons.mpr ⟨key 177 _ (List.mem_of_getElem? (i := 630) rfl) (hs _ (by decide +kernel)),
    List.forall_mem_cons.mpr ⟨key 188 _ (List.mem_of_getElem? (i := 646) rfl) (hs _ (by decide +kernel)),
    List.forall_mem_cons.mpr ⟨key 194 _ (List.mem_of_getElem? (i := 654) rfl) (hs _ (by decide +kernel)),
    List.forall_mem_cons.mpr ⟨key 203 _ (List.mem_of_getElem? (i := 696) rfl) (hs _ (by decide +kernel)),
    List.forall_mem_cons.mpr ⟨key 213 _ (List.mem_of_getElem? (i := 705) rfl) (hs _ (by decide +kernel)),
    List.forall_mem_cons.mpr ⟨key 226 _ (List.mem_of_getElem? (i := 713) rfl) (hs _ (by decide +kernel)),
    List.forall_mem_cons.mpr ⟨key 232 _ (List.mem_of_getElem? (i := 714) rfl) (hs _ (by decide +kernel)),
    List.forall_mem_cons.mpr ⟨key 240 _ (List.mem_of_getElem? (i := 736) rfl) (hs _ (by decide +kernel)),
    List.forall_mem_cons.mpr ⟨key 257 _ (List.mem_of_getElem? (i := 391) rfl) (hs _ (by decide +kernel)),
    List.forall_mem_cons.mpr ⟨key 260 _ (List.mem_of_getElem? (i := 470) rfl) (hs _ (by decide +kernel)),
    List.forall_mem_cons.mpr ⟨key 262 _ (List.mem_of_getElem? (i := 542) rfl) (hs _ (by decide +kernel)),
    List.forall_mem_cons.mpr ⟨key 264 _ (List.mem_of_getElem? (i := 628) rfl) (hs _ (by decide +kernel)),
    List.forall_mem_cons.mpr ⟨key 266 _ (List.mem_of_getElem? (i := 695) rfl) (hs _ (by decide +kernel)),
    List.forall_mem_cons.mpr ⟨key 268 _ (List.mem_of_getElem? (i := 748) rfl) (hs _ (by decide +kernel)),
    List.forall_mem_cons.mpr ⟨key 270 _ (List.mem_of_getElem? (i := 352) rfl) (hs _ (by decide +kernel)),
    List.forall_mem_cons.mpr ⟨key 272 _ (List.mem_of_getElem? (i := 502) rfl) (hs _ (by decide +kernel)),
    List.forall_mem_cons.mpr ⟨key 274 _ (List.mem_of_getElem? (i := 700) rfl) (hs _ (by decide +kernel)),
    List.forall_mem_cons.mpr ⟨key 280 _ (List.mem_of_getElem? (i := 487) rfl) (hs _ (by decide +kernel)),
    List.forall_mem_cons.mpr ⟨key 282 _ (List.mem_of_getElem? (i := 498) rfl) (hs _ (by decide +kernel)),
    List.forall_mem_cons.mpr ⟨key 284 _ (List.mem_of_getElem? (i := 547) rfl) (hs _ (by decide +kernel)),
    List.forall_mem_cons.mpr ⟨key 286 _ (List.mem_of_getElem? (i := 553) rfl) (hs _ (by decide +kernel)),
    fun _ h => absurd h List.not_mem_nil⟩⟩⟩⟩⟩⟩⟩⟩⟩⟩⟩⟩⟩⟩⟩⟩⟩⟩⟩⟩⟩⟩⟩⟩⟩⟩⟩
theorem start_W {s : State} {b : Nat} (hts : ∀ w ∈ lw_tbl, w.before #[Value.ref b] s = true) : mw_W s := by
  intro w hw hk
  have h1 := hts w hw
  unfold mw_ok at hk
  split at hk
  · exact va_Nw.of rfl h1
  · exact va_Nw.of rfl h1
  · exact va_Nw.of rfl h1
  · exact va_Nw.of rfl h1
  · exact word_at (State.WarmedH.refl s) (good_of_word hk) h1
set_option maxHeartbeats 4000000 in
set_option maxRecDepth 100000 in
theorem start_K {s : State} {b : Nat} (hs : ∀ w ∈ flatC (Jvm.Cond.and given_1 narrow_1), w.before #[Value.ref b] s = true) (hts : ∀ w ∈ lw_tbl, w.before #[Value.ref b] s = true) : ∃ G : mw_G, mw_K mw_S G s ∧ mw_Z G (fun q => s.heap.size ≤ q) s s.heap := by
  obtain ⟨c0, i0, k0⟩ := u_known (C := RJx4a65c) (T := TJx4a65c) (N := 3) (n := 3) hts uin_0 (hts _ kw34)
  obtain ⟨c1, i1, k1⟩ := u_known (C := RX0) (T := TX0) (N := 6) (n := 6) hts uin_1 (hts _ kw389)
  obtain ⟨c2, i2, k2⟩ := u_known (C := RX1) (T := TX1) (N := 4) (n := 4) hts uin_2 (hts _ kw451)
  obtain ⟨c3, i3, k3⟩ := u_known (C := RX2) (T := TX2) (N := 2) (n := 2) hts uin_3 (hts _ kw310)
  obtain ⟨c4, i4, k4⟩ := u_known (C := RX3) (T := TX3) (N := 3) (n := 3) hts uin_4 (hts _ kw220)
  obtain ⟨c5, i5, k5⟩ := u_known (C := RX4) (T := TX4) (N := 4) (n := 4) hts uin_5 (hts _ kw379)
  obtain ⟨c6, i6, k6⟩ := u_known (C := RX5) (T := TX5) (N := 6) (n := 6) hts uin_6 (hts _ kw399)
  obtain ⟨c7, i7, k7⟩ := u_known (C := RX6) (T := TX6) (N := 4) (n := 4) hts uin_7 (hts _ kw60)
  obtain ⟨c8, i8, k8⟩ := u_known (C := RX7) (T := TX7) (N := 9) (n := 9) hts uin_8 (hts _ kw26)
  obtain ⟨c9, i9, k9⟩ := u_known (C := RX8) (T := TX8) (N := 34) (n := 34) hts uin_9 (hts _ kw712)
  obtain ⟨aI, kI, pI, hI1, hI2, hI3⟩ := Cond.arrayClass_spec (hts _ kw81)
  obtain ⟨aZ, kZ, pZ, hZ1, hZ2, hZ3⟩ := Cond.arrayClass_spec (hts _ kw820)
  obtain ⟨aJ, kJ, pJ, hJ1, hJ2, hJ3⟩ := Cond.arrayClass_spec (hts _ kw994)
  have hao : va_AO "java/lang/Object" s := va_AO.of (hts (Cond.arrayOver (.object "java/lang/Object")) (List.mem_of_getElem? (i := 332) rfl))
  obtain ⟨pO, aO, kO, hO1, hO2, hO3, hO4, hO5⟩ := Cond.arrayOver_spec hao
  obtain ⟨mi, hmi⟩ := va_Mi.of (hs (Cond.isRef (.mirror "[Ljava/lang/Object;")) (by decide +kernel))
  have hA : ∀ a : Nat, a < s.heap.size → ¬ (fun q => s.heap.size ≤ q) a := fun a h => Nat.not_le.mpr h
  obtain ⟨z, hz, hT⟩ := va_Tof (N := 0) (f := fun _ => Value.null) (ty := .object "java/lang/Object") (tm := .static "java/util/ArrayList" "DEFAULTCAPACITY_EMPTY_ELEMENTDATA" "[Ljava/lang/Object;") (A := fun q => s.heap.size ≤ q) (by decide) (hs _ (by decide +kernel)) (law_eqi (z := 0) (hs _ (by decide +kernel))) (fun j hj => absurd hj (Nat.not_lt_zero _)) hA
  refine ⟨((fun k => if k = 0 then c0 else if k = 1 then c1 else if k = 2 then c2 else if k = 3 then c3 else if k = 4 then c4 else if k = 5 then c5 else if k = 6 then c6 else if k = 7 then c7 else if k = 8 then c8 else c9, fun k j => if k = 99 then mi else (if k = 0 then i0 else if k = 1 then i1 else if k = 2 then i2 else if k = 3 then i3 else if k = 4 then i4 else if k = 5 then i5 else if k = 6 then i6 else if k = 7 then i7 else if k = 8 then i8 else i9) j), fun k => if k = 0 then aI else if k = 1 then aZ else if k = 2 then aO else aJ, z), ⟨start_W hts, ⟨fun k q hq => ?_, fun k q hq => ?_⟩, hao, start_S hs hts, hmi⟩, ?_, hT, ?_, ?_⟩
  · match k, hq with
    | 0, hq => cases hq; exact k0
    | 1, hq => cases hq; exact k1
    | 2, hq => cases hq; exact k2
    | 3, hq => cases hq; exact k3
    | 4, hq => cases hq; exact k4
    | 5, hq => cases hq; exact k5
    | 6, hq => cases hq; exact k6
    | 7, hq => cases hq; exact k7
    | 8, hq => cases hq; exact k8
    | 9, hq => cases hq; exact k9
    | k + 10, hq => simp [vwCl] at hq
  · match k, hq with
    | 0, hq => cases hq; exact ⟨fun n z => ⟨fun k h => (by cases h), kI, hI2, pI, hI3⟩, hI1⟩
    | 1, hq => cases hq; exact ⟨fun n z => ⟨fun k h => (by cases h), kZ, hZ2, pZ, hZ3⟩, hZ1⟩
    | 2, hq => cases hq; exact ⟨fun n z => ⟨fun k h => (by cases h), kO, hO3, pO, hO4⟩, kO, pO, hO3, hO4, hO1, hO5⟩
    | 3, hq => cases hq; exact ⟨fun n z => ⟨fun k h => (by cases h), kJ, hJ2, pJ, hJ3⟩, hJ1⟩
    | k + 4, hq => simp [mw_tys] at hq
  · exact va_Zof (hts _ (List.mem_of_getElem? (i := 91) rfl)) (hts _ kw4) hz hA
  · exact vx_Zqof (hts _ (List.mem_of_getElem? (i := 203) rfl)) (hts _ kw7) (hs _ (by decide +kernel)) hA
  · exact vx_Zqof (hts _ (List.mem_of_getElem? (i := 205) rfl)) (hts _ kw7) (hs _ (by decide +kernel)) hA
set_option maxHeartbeats 4000000 in
set_option maxRecDepth 100000 in
theorem start_N {s : State} {b : Nat} (hs : ∀ w ∈ flatC (Jvm.Cond.and given_1 narrow_1), w.before #[Value.ref b] s = true) : mw_N s :=
  List.forall_mem_cons.mpr ⟨va_Nc.of (hs _ (by decide +kernel)), List.forall_mem_cons.mpr ⟨va_Nc.of (hs _ (by decide +kernel)), List.forall_mem_cons.mpr ⟨va_Nc.of (hs _ (by decide +kernel)), fun _ h => absurd h List.not_mem_nil⟩⟩⟩
set_option maxHeartbeats 4000000 in
set_option maxRecDepth 100000 in
theorem whole_start {p : Program} {e : Env} {s : State} {m : MethodId} {below : List Frame} {meth : Method} {c : Code} (l : Launch) (hflags : l.flags = flags0) {b L : Nat} {xs : Nat → Int32} (hL : L ≤ 2048) (C0 : lw_At p s m meth c b L xs) : W p l e room_1 s m #[Value.ref b] below meth c s.heap [] 0 0 (lw_Z below #[Value.ref b] s) (entryFrame m ([Value.ref b] : List Value).toArray 7) := by
  obtain ⟨hx, hb, hr, hml, hown, hts, hX, hbl, hlocks, hgv⟩ := id C0
  have hfl : l.stackTraces = false := by
    show (!l.flags.contains noTraceFlag) = false
    rw [hflags]
    decide
  have hs := flat_of_before _ hgv
  obtain ⟨G, hK, hZ⟩ := start_K hs hts
  have hN := start_N hs
  have X : mw_B p l s m meth c code 7 RL G (fun q => s.heap.size ≤ q) := ⟨hx, hb, hml, hown, hK, hZ, fun _ h => h, hlocks, hfl⟩
  have hT : mw_T G (fun q => s.heap.size ≤ q) s mw_nil s.heap [] := ⟨fun a e9 h => (by cases h), fun a h => absurd rfl h, va_S.rf⟩
  have hl := lv_entry ([.ref b]) (n := 7) (Nat.le_of_ble_eq_true rfl)
  rw [lg_entry_eq]
  generalize (lg_sl ([.ref b]) ++ List.replicate (7 - (lg_sl ([.ref b])).length) Slot.unset).toArray = ls at hl ⊢
  have hl : lv_has ls 7 [(0, .ref b)] := hl
  refine mr_new X hT (ci := 8) rfl uin_8 tyX7 tyX7_ok kw25 kw26 kw1 (fs := [.null, .null, .null, .null, .null, .null, .null, .int 0, .int 0]) (fun j hj => by have hj : j < 9 := hj; rcases (show j = 0 ∨ j = 1 ∨ j = 2 ∨ j = 3 ∨ j = 4 ∨ j = 5 ∨ j = 6 ∨ j = 7 ∨ j = 8 by omega) with rfl | rfl | rfl | rfl | rfl | rfl | rfl | rfl | rfl <;> rfl) (Nat.le_of_ble_eq_true rfl) (Nat.le_of_ble_eq_true rfl) dL_law_0 (fun q1 H hq1 hT => ?_)
  refine lv_dup X.1 X.2.1 dL_law_3 rfl ?_
  refine mr_g X hT (fun hT' => mr_runI X hT' cb_RL_83 kw28 rfl kw29 (k_gate hfl (va_up_self _ _ _)) rfl rfl hl.1 ⟨Nat.le_of_ble_eq_true rfl, Nat.le_of_ble_eq_true rfl⟩ (Nat.le_of_ble_eq_true rfl) dL_law_4 ⟨Nat.le_of_ble_eq_true rfl, Nat.le_of_ble_eq_true rfl⟩) (fun v Mx H locs hp hT2 => ?_)
  obtain ⟨rfl, b1, w1, e00, hA, ho⟩ := hp
  subst e00
  have hT := hT2
  refine W.eq (g2 := F0 m 7 ls _) rfl ?_
  refine lv_astore_n X.1 X.2.1 dL_law_7 rfl hl (by decide) rfl (fun ls hl => ?_)
  refine mr_new X hT (ci := 9) rfl uin_9 tyX8 tyX8_ok kw711 kw712 kw6 (fs := [.null, .null, .int 0, .null, .int 0, .int 0, .null, .null, .null, .null, .int 0, .null, .null, .null, .null, .null, .null, .int 0, .null, .null, .null, .null, .int 0, .null, .null, .null, .null, .null, .null, .int 0, .null, .null, .int 0, .int 0]) (fun j hj => by have hj : j < 34 := hj; rcases (show j = 0 ∨ j = 1 ∨ j = 2 ∨ j = 3 ∨ j = 4 ∨ j = 5 ∨ j = 6 ∨ j = 7 ∨ j = 8 ∨ j = 9 ∨ j = 10 ∨ j = 11 ∨ j = 12 ∨ j = 13 ∨ j = 14 ∨ j = 15 ∨ j = 16 ∨ j = 17 ∨ j = 18 ∨ j = 19 ∨ j = 20 ∨ j = 21 ∨ j = 22 ∨ j = 23 ∨ j = 24 ∨ j = 25 ∨ j = 26 ∨ j = 27 ∨ j = 28 ∨ j = 29 ∨ j = 30 ∨ j = 31 ∨ j = 32 ∨ j = 33 by omega) with rfl | rfl | rfl | rfl | rfl | rfl | rfl | rfl | rfl | rfl | rfl | rfl | rfl | rfl | rfl | rfl | rfl | rfl | rfl | rfl | rfl | rfl | rfl | rfl | rfl | rfl | rfl | rfl | rfl | rfl | rfl | rfl | rfl | rfl <;> rfl) (Nat.le_of_ble_eq_true rfl) (Nat.le_of_ble_eq_true rfl) dL_law_8 (fun hm H hhm hT => ?_)
  refine lv_dup X.1 X.2.1 dL_law_11 rfl ?_
  obtain ⟨eu, hds⟩ := law_up (e := .inr (9, [.null, .null, .int 0, .null, .int 0, .int 0, .null, .null, .null, .null, .int 0, .null, .null, .null, .null, .null, .null, .int 0, .null, .null, .null, .null, .int 0, .null, .null, .null, .null, .null, .null, .int 0, .null, .null, .int 0, .int 0])) hhm
  rw [eu] at hT
  refine mr_go X hT hds (mr_runI X hT cb_RL_86 kw714 rfl kw715 (k_twin hfl (va_up_self _ _ _)) rfl rfl hl.1 ⟨Nat.le_of_ble_eq_true rfl, Nat.le_of_ble_eq_true rfl⟩ (Nat.le_of_ble_eq_true rfl) dL_law_12 ⟨Nat.le_of_ble_eq_true rfl, Nat.le_of_ble_eq_true rfl⟩) (fun v Mt H locs hp hds hT => ?_)
  obtain ⟨rfl, ad, hM⟩ := hp
  refine W.eq (g2 := F0 m 15 ls _) rfl ?_
  refine lv_astore_n X.1 X.2.1 dL_law_15 rfl hl (by decide) rfl (fun ls hl => ?_)
  refine lv_iconst X.1 X.2.1 (v := 1) dL_law_16 (by decide) ?_
  refine mr_newa X hT (atype := .long) (k := 3) (N := 1) (x := .inr (.inl (fun _ => 0))) rfl kw994 (fun cA => rfl) (nI_pos (n := 1) (by decide)) (nI_clamp (n := 1) (by decide)) (Nat.le_of_ble_eq_true rfl) (Nat.le_of_ble_eq_true rfl) (Nat.le_of_ble_eq_true rfl) dL_law_17 (fun o H hO hT => ?_)
  obtain ⟨ev, hds3⟩ := law_up (e := .inl (G.2.1 3, 1, .inr (.inl (fun _ => 0)))) hO
  have hox : Mx o = none ∧ Mt o = none := by
    unfold mw_or at hO
    cases h1 : Mt o with
    | none => rw [h1] at hO; exact ⟨hO, rfl⟩
    | some e9 => rw [h1] at hO; cases hO
  have hdx : mw_ds Mx (mo G o (fun _ => 0)) := fun a ha => by
    by_cases hao : a = o
    · subst hao; exact absurd hox.1 ha
    · exact mo_ne hao
  have hdt : mw_ds (mw_or Mx (mo G o (fun _ => 0))) Mt := fun a ha => by
    by_cases hao : a = o
    · subst hao; exact hox.2
    · refine mw_ds_comm hds a (fun z => ha ?_)
      unfold mw_or
      rw [z, mo_ne hao]
      rfl
  have eT : va_up (mw_or Mt Mx) o (some (.inl (G.2.1 3, 1, .inr (.inl (fun _ => 0))))) = mw_or (mw_or Mx (mo G o (fun _ => 0))) Mt := by
    rw [mw_or_comm hdt]
    funext a
    by_cases hao : a = o
    · subst hao
      rw [va_up_self]
      unfold mw_or
      rw [hox.1, hox.2, mo_self]
      rfl
    · rw [va_up_ne _ _ hao]
      unfold mw_or
      rw [mo_ne hao]
      cases Mt a <;> cases Mx a <;> rfl
  rw [eT] at hT
  refine lv_astore_n X.1 X.2.1 dL_law_19 rfl hl (by decide) rfl (fun ls hl => ?_)
  refine lv_iconst X.1 X.2.1 (v := 0) dL_law_20 (by decide) ?_
  refine lv_istore X.1 X.2.1 dL_law_21 hl (by decide) rfl (fun ls hl => ?_)
  exact law_loop hfl hr X hN hX hbl hL (L / 4) 0 _ _ _ _ _ (Nat.zero_add _) ⟨b1, s_0, w1, 0, Mx, Mt, fun _ => 0, rfl, hA, ho, q_ok_0, hM, hdx, hdt, hT, lv_sub hl [0, 4, 3, 2, 1] rfl, Nat.le_of_ble_eq_true rfl, Nat.le_of_ble_eq_true rfl⟩
set_option maxHeartbeats 4000000 in
theorem lw_walk (l : Launch) (hflags : l.flags = flags0) (b : Addr) (xs : List Int32) : MetFree l x (headSpec (Jvm.Cond.code x code maxLocals ret :: tables_1) room_1) (lw_P b xs) (fun _ _ _ _ _ => True) lw_Q := by
  refine MetFree.of_bodyS (code := code) (maxLocals := maxLocals) (ret := ret) (by decide) ?_ ?_
  · intro args s m h hn
    obtain ⟨meth, c, h1, h2, h3, h4, h5, h6, -, -⟩ := Cond.code_spec hn (atoms_spec (ws := Jvm.Cond.code x code maxLocals ret :: tables_1) h _ List.mem_cons_self)
    exact ⟨meth, c, h1, h2, h3, h4, h5, h6⟩
  · intro p e s m args below meth c s₁ B hml0 hP _
    obtain ⟨rfl, hx, hbd, hgv⟩ := hP
    obtain ⟨scr, harrAt, hlist, hof, hsmall⟩ := hx
    obtain ⟨hcb, hkn, -, -⟩ := State.arrayAt?_spec harrAt
    have hown : s.vm.findClass R_law = some m.cls := findClass_of_methodNamed B.named
    have hts0 : ∀ c ∈ (Jvm.Cond.code x code maxLocals ret :: tables_1), c.before #[Value.ref b] s = true := atoms_spec (ws := Jvm.Cond.code x code maxLocals ret :: tables_1) B.pre
    have hts : ∀ w ∈ lw_tbl, w.before #[Value.ref b] s = true := k2_hts_sels lw_privs (fun w hw => hts0 w (List.mem_cons_of_mem _ hw)) lw_privs_ok
    have hml : c.maxLocals = 7 := B.maxLocals_eq (hts0 _ List.mem_cons_self)
    have X₀ : Stand p l e room_1 s m #[Value.ref b] below meth c s₁ [] 0 0 := Stand.of_body B
    have hh0 : s₁.heap = s.heap := by rw [B.state]; rfl
    have hsz : scr.slots.size = xs.length := by rw [← Array.length_toList, hlist, List.length_map]
    have hval : ∀ j : Nat, j < xs.length → scr.slots[j]? = some (.int (xs.getD j 0)) := fun j hj => by
      rw [← Array.getElem?_toList, hlist]
      simp [hj]
    have hbl : b < s.heap.size := (Array.getElem?_eq_some_iff.mp hcb).1
    have hX : va_X b xs.length (fun j => xs.getD j 0) s s.heap := ⟨scr, hcb, hof, hkn, hsz, hval⟩
    have K : W p l e room_1 s m #[Value.ref b] below meth c s₁.heap [] 0 0 (lw_Z below #[Value.ref b] s) (entryFrame m ([Value.ref b] : List Value).toArray 7) := by
      rw [hh0]
      exact whole_start l hflags hbd ⟨B.exec, B.bytes, B.returns, hml, hown, hts, hX, hbl, B.notSynchronized, hgv⟩
    obtain ⟨t, a1, o, b1, b2, b3⟩ := K s₁ rfl X₀
    exact ⟨t, o, a1, b1, b2, b3⟩
theorem lw_pre_spec {args : Array Value} {s : State} (h : (Jvm.Cond.and given_1 narrow_1).before args s = true) (hr : rest_1_c.before args s = true) : ∃ (b : Addr) (xs : List Int32), lw_P b xs args s := by
  have hs := flat_of_before _ h
  have hq := flat_of_before _ hr
  have hc : (Cond.count 1).before args s = true := hs _ (by decide +kernel)
  have harr : (Cond.arrayOf (.arg 0) .int).before args s = true := hs _ (by decide +kernel)
  have hle : (Cond.le (.length (.arg 0)) (.int 2048)).before args s = true := hs _ (by decide +kernel)
  have hlen : (Cond.isInt (.length (.arg 0))).before args s = true := hq _ (by decide +kernel)
  have hall : (Cond.all (.arg 0) (.isInt (.elem (.arg 0) (.index 0)))).before args s = true := hq _ (by decide +kernel)
  obtain ⟨b, xs, hb, hx⟩ := State.ints_of_pre rfl harr hlen hall
  have hsm : xs.length < 2 ^ 31 := hx.choose_spec.2.2.2
  have hev : (Term.length (.arg 0)).eval args s none [] s = some (.int xs.length.toInt32) := hx.length_eval hb
  have hv := Cond.le_ints hev (show (Term.int 2048).eval args s none [] s = some (.int 2048) from rfl)
  have hd : xs.length.toInt32 ≤ 2048 := by
    simpa [Cond.before, Cond.holds, hv] using hle
  have hN : xs.length ≤ 2048 := (Int32.ofNat_le_ofNat hsm (by decide)).mp (show Int32.ofNat xs.length ≤ Int32.ofNat 2048 from hd)
  exact ⟨b, xs, Cond.one_arg hc (show args[0]? = some (.ref b) from hb), hx, hN, h⟩
theorem lw_comes (l : Launch) (hflags : l.flags = flags0) : Comes l x (Jvm.Cond.code x code maxLocals ret :: tables_1) room_1 (fun tb e args s => Calls_1 tb e args s ∧ rest_1 tb e args s ∧ Pre_1 tb e args s)
    (fun _ _ args s o t => lw_Q args s o t) := by
  intro p e ha hc hk s m args below hf hfit hheap happ hpre
  obtain ⟨b, xs, hP⟩ := lw_pre_spec hpre.2.2 hpre.2.1
  obtain ⟨k, o, h1, h2, h3, hQ⟩ := lw_walk l hflags b xs p e ha hc hk s m args below hf ((Spec.applies_iff_loose hf).mp happ).1 hP trivial
  exact ⟨k, o, h1, h2, h3, hQ⟩
theorem lw_frame {s t : State} {o : Outcome} {args : Array Value} (h : Framed s o t [] 601024 7293034) :
    Framed s o t (fieldLocs frame_1_writes args s ++ arrayLocs frame_1_arrays args s ++ staticLocs frame_1_statics s) 601024 7293034 := h
theorem lw_limb (L : Cond) (hL : ∀ (args : Array Value) (s t : State), L.after args s (.returned (some (.int 1))) t = true) :
    ArmFor flags0 classFile x code maxLocals ret World_1 tables_1 room_1 Calls_1 rest_1 Pre_1
      (fun tb e a s o t => postC L tb e a s o t ∧ Framed s o t (fieldLocs frame_1_writes a s ++ arrayLocs frame_1_arrays a s ++ staticLocs frame_1_statics s) 601024 7293034) := by
  intro l hflags _ _ p e ha hc hk s m args below hf hfit hheap happ hpre
  obtain ⟨k, o, h1, h2, h3, rfl, hF⟩ := lw_comes l hflags p e ha hc hk s m args below hf hfit hheap happ hpre
  exact ⟨k, _, h1, h2, h3, hL args s _, lw_frame hF⟩
theorem i_vc : Claimed_1_1 ∧ Claimed_1_2 := ⟨lw_limb limb_1_1 (fun args s t => by simp [limb_1_1, Cond.after, Cond.holds, Cond.value]), lw_limb limb_1_2 (fun args s t => Cond.after_iff.mpr (by
  first | (rw [show limb_1_2 = Cond.eq .result (.int 1) from rfl, Cond.eq_ints (x := 1) (y := 1) rfl rfl]; simp; done) | (simp [limb_1_2, Cond.value, Term.eval]; done)))⟩

